-- ===== PART A: goes FIRST, ahead of the names: the tables' words, and 'selects' of the private methods out of them =====
/-- a private method of a class that the tables say can be made, by its rows of tables_1 -/
def lw_okq (q : MethodName × Nat) : Prop := (q.1.cls ≠ "java/lang/invoke/MethodHandle" ∧ q.1.cls ≠ "java/lang/invoke/VarHandle") ∧ Cond.instantiable q.1.cls q.2 ∈ tables_1 ∧ Cond.privateMethod q.1 ∈ tables_1 ∧ Cond.instanceMethod q.1 ∈ tables_1
theorem lw_p0 : lw_okq (⟨"MasterKeys$Board", "doorsFitted", "(J)I"⟩, 7) := ⟨⟨by decide +kernel, by decide +kernel⟩, List.mem_of_getElem? (i := 62) (by decide +kernel), List.mem_of_getElem? (i := 172) (by decide +kernel), List.mem_of_getElem? (i := 173) (by decide +kernel)⟩
theorem lw_p1 : lw_okq (⟨"java/lang/Throwable", "fillInStackTrace", "(I)Ljava/lang/Throwable;"⟩, 6) := ⟨⟨by decide +kernel, by decide +kernel⟩, List.mem_of_getElem? (i := 234) (by decide +kernel), List.mem_of_getElem? (i := 232) (by decide +kernel), List.mem_of_getElem? (i := 233) (by decide +kernel)⟩
theorem lw_p2 : lw_okq (⟨"MasterKeys", "needKey", "(I)V"⟩, 5) := ⟨⟨by decide +kernel, by decide +kernel⟩, List.mem_of_getElem? (i := 16) (by decide +kernel), List.mem_of_getElem? (i := 280) (by decide +kernel), List.mem_of_getElem? (i := 281) (by decide +kernel)⟩
theorem lw_p3 : lw_okq (⟨"MasterKeys", "needDoor", "(I)V"⟩, 5) := ⟨⟨by decide +kernel, by decide +kernel⟩, List.mem_of_getElem? (i := 16) (by decide +kernel), List.mem_of_getElem? (i := 300) (by decide +kernel), List.mem_of_getElem? (i := 301) (by decide +kernel)⟩
theorem lw_p4 : lw_okq (⟨"MasterKeys", "needDepth", "(I)V"⟩, 5) := ⟨⟨by decide +kernel, by decide +kernel⟩, List.mem_of_getElem? (i := 16) (by decide +kernel), List.mem_of_getElem? (i := 328) (by decide +kernel), List.mem_of_getElem? (i := 329) (by decide +kernel)⟩
theorem lw_p5 : lw_okq (⟨"MasterKeys$Search", "stands", "()Z"⟩, 5) := ⟨⟨by decide +kernel, by decide +kernel⟩, List.mem_of_getElem? (i := 104) (by decide +kernel), List.mem_of_getElem? (i := 367) (by decide +kernel), List.mem_of_getElem? (i := 368) (by decide +kernel)⟩
theorem lw_p6 : lw_okq (⟨"MasterKeys$Board", "rowFromCuts", "(I)J"⟩, 7) := ⟨⟨by decide +kernel, by decide +kernel⟩, List.mem_of_getElem? (i := 62) (by decide +kernel), List.mem_of_getElem? (i := 383) (by decide +kernel), List.mem_of_getElem? (i := 384) (by decide +kernel)⟩
theorem lw_p7 : lw_okq (⟨"MasterKeys$Board", "isTaken", "(JI)Z"⟩, 7) := ⟨⟨by decide +kernel, by decide +kernel⟩, List.mem_of_getElem? (i := 62) (by decide +kernel), List.mem_of_getElem? (i := 390) (by decide +kernel), List.mem_of_getElem? (i := 391) (by decide +kernel)⟩
theorem lw_p8 : lw_okq (⟨"MasterKeys$Board", "doorAccepts", "(II)Z"⟩, 7) := ⟨⟨by decide +kernel, by decide +kernel⟩, List.mem_of_getElem? (i := 62) (by decide +kernel), List.mem_of_getElem? (i := 394) (by decide +kernel), List.mem_of_getElem? (i := 395) (by decide +kernel)⟩
theorem lw_p9 : lw_okq (⟨"MasterKeys$Board", "isAboveTop", "(J)Z"⟩, 7) := ⟨⟨by decide +kernel, by decide +kernel⟩, List.mem_of_getElem? (i := 62) (by decide +kernel), List.mem_of_getElem? (i := 399) (by decide +kernel), List.mem_of_getElem? (i := 400) (by decide +kernel)⟩
theorem lw_p10 : lw_okq (⟨"MasterKeys$Board", "strangerFits", "(JII)Z"⟩, 7) := ⟨⟨by decide +kernel, by decide +kernel⟩, List.mem_of_getElem? (i := 62) (by decide +kernel), List.mem_of_getElem? (i := 410) (by decide +kernel), List.mem_of_getElem? (i := 411) (by decide +kernel)⟩
theorem lw_p11 : lw_okq (⟨"MasterKeys$Search", "goBack", "()Z"⟩, 5) := ⟨⟨by decide +kernel, by decide +kernel⟩, List.mem_of_getElem? (i := 104) (by decide +kernel), List.mem_of_getElem? (i := 414) (by decide +kernel), List.mem_of_getElem? (i := 415) (by decide +kernel)⟩
theorem lw_p12 : lw_okq (⟨"MasterKeys$Search", "goOn", "()Z"⟩, 5) := ⟨⟨by decide +kernel, by decide +kernel⟩, List.mem_of_getElem? (i := 104) (by decide +kernel), List.mem_of_getElem? (i := 418) (by decide +kernel), List.mem_of_getElem? (i := 419) (by decide +kernel)⟩
theorem lw_p13 : lw_okq (⟨"MasterKeys", "needPin", "(I)V"⟩, 5) := ⟨⟨by decide +kernel, by decide +kernel⟩, List.mem_of_getElem? (i := 16) (by decide +kernel), List.mem_of_getElem? (i := 429) (by decide +kernel), List.mem_of_getElem? (i := 430) (by decide +kernel)⟩
theorem lw_p14 : lw_okq (⟨"MasterKeys", "needPlan", "()V"⟩, 5) := ⟨⟨by decide +kernel, by decide +kernel⟩, List.mem_of_getElem? (i := 16) (by decide +kernel), List.mem_of_getElem? (i := 459) (by decide +kernel), List.mem_of_getElem? (i := 460) (by decide +kernel)⟩
theorem lw_p15 : lw_okq (⟨"MasterKeys$Rows", "countWays", "(I)V"⟩, 3) := ⟨⟨by decide +kernel, by decide +kernel⟩, List.mem_of_getElem? (i := 127) (by decide +kernel), List.mem_of_getElem? (i := 468) (by decide +kernel), List.mem_of_getElem? (i := 469) (by decide +kernel)⟩
def lw_privs_1 : List (MethodName × Nat) := [(⟨"MasterKeys$Board", "doorsFitted", "(J)I"⟩, 7), (⟨"java/lang/Throwable", "fillInStackTrace", "(I)Ljava/lang/Throwable;"⟩, 6), (⟨"MasterKeys", "needKey", "(I)V"⟩, 5), (⟨"MasterKeys", "needDoor", "(I)V"⟩, 5), (⟨"MasterKeys", "needDepth", "(I)V"⟩, 5), (⟨"MasterKeys$Search", "stands", "()Z"⟩, 5), (⟨"MasterKeys$Board", "rowFromCuts", "(I)J"⟩, 7), (⟨"MasterKeys$Board", "isTaken", "(JI)Z"⟩, 7), (⟨"MasterKeys$Board", "doorAccepts", "(II)Z"⟩, 7), (⟨"MasterKeys$Board", "isAboveTop", "(J)Z"⟩, 7), (⟨"MasterKeys$Board", "strangerFits", "(JII)Z"⟩, 7), (⟨"MasterKeys$Search", "goBack", "()Z"⟩, 5), (⟨"MasterKeys$Search", "goOn", "()Z"⟩, 5), (⟨"MasterKeys", "needPin", "(I)V"⟩, 5), (⟨"MasterKeys", "needPlan", "()V"⟩, 5), (⟨"MasterKeys$Rows", "countWays", "(I)V"⟩, 3)]
theorem lw_r1 : ∀ q ∈ lw_privs_1, lw_okq q := List.forall_mem_cons.mpr ⟨lw_p0, List.forall_mem_cons.mpr ⟨lw_p1, List.forall_mem_cons.mpr ⟨lw_p2, List.forall_mem_cons.mpr ⟨lw_p3, List.forall_mem_cons.mpr ⟨lw_p4, List.forall_mem_cons.mpr ⟨lw_p5, List.forall_mem_cons.mpr ⟨lw_p6, List.forall_mem_cons.mpr ⟨lw_p7, List.forall_mem_cons.mpr ⟨lw_p8, List.forall_mem_cons.mpr ⟨lw_p9, List.forall_mem_cons.mpr ⟨lw_p10, List.forall_mem_cons.mpr ⟨lw_p11, List.forall_mem_cons.mpr ⟨lw_p12, List.forall_mem_cons.mpr ⟨lw_p13, List.forall_mem_cons.mpr ⟨lw_p14, List.forall_mem_cons.mpr ⟨lw_p15, fun _ h => absurd h List.not_mem_nil⟩⟩⟩⟩⟩⟩⟩⟩⟩⟩⟩⟩⟩⟩⟩⟩
theorem lw_p16 : lw_okq (⟨"MasterKeys$Rows", "countWaysBehind", "(I)V"⟩, 3) := ⟨⟨by decide +kernel, by decide +kernel⟩, List.mem_of_getElem? (i := 127) (by decide +kernel), List.mem_of_getElem? (i := 475) (by decide +kernel), List.mem_of_getElem? (i := 476) (by decide +kernel)⟩
theorem lw_p17 : lw_okq (⟨"MasterKeys$Rows", "addWays", "(IIII)V"⟩, 3) := ⟨⟨by decide +kernel, by decide +kernel⟩, List.mem_of_getElem? (i := 127) (by decide +kernel), List.mem_of_getElem? (i := 481) (by decide +kernel), List.mem_of_getElem? (i := 482) (by decide +kernel)⟩
theorem lw_p18 : lw_okq (⟨"MasterKeys$Rows", "leastDepth", "(IIIJI)I"⟩, 3) := ⟨⟨by decide +kernel, by decide +kernel⟩, List.mem_of_getElem? (i := 127) (by decide +kernel), List.mem_of_getElem? (i := 507) (by decide +kernel), List.mem_of_getElem? (i := 508) (by decide +kernel)⟩
theorem lw_p19 : lw_okq (⟨"MasterKeysModel", "noKey", "(I)Z"⟩, 13) := ⟨⟨by decide +kernel, by decide +kernel⟩, List.mem_of_getElem? (i := 523) (by decide +kernel), List.mem_of_getElem? (i := 586) (by decide +kernel), List.mem_of_getElem? (i := 587) (by decide +kernel)⟩
theorem lw_p20 : lw_okq (⟨"MasterKeysModel", "noDoor", "(I)Z"⟩, 13) := ⟨⟨by decide +kernel, by decide +kernel⟩, List.mem_of_getElem? (i := 523) (by decide +kernel), List.mem_of_getElem? (i := 590) (by decide +kernel), List.mem_of_getElem? (i := 591) (by decide +kernel)⟩
theorem lw_p21 : lw_okq (⟨"MasterKeysModel", "noDepth", "(I)Z"⟩, 13) := ⟨⟨by decide +kernel, by decide +kernel⟩, List.mem_of_getElem? (i := 523) (by decide +kernel), List.mem_of_getElem? (i := 605) (by decide +kernel), List.mem_of_getElem? (i := 606) (by decide +kernel)⟩
theorem lw_p22 : lw_okq (⟨"MasterKeysModel", "mayStand", "(II)Z"⟩, 13) := ⟨⟨by decide +kernel, by decide +kernel⟩, List.mem_of_getElem? (i := 523) (by decide +kernel), List.mem_of_getElem? (i := 618) (by decide +kernel), List.mem_of_getElem? (i := 619) (by decide +kernel)⟩
theorem lw_p23 : lw_okq (⟨"MasterKeysModel", "areGood", "(I)Z"⟩, 13) := ⟨⟨by decide +kernel, by decide +kernel⟩, List.mem_of_getElem? (i := 523) (by decide +kernel), List.mem_of_getElem? (i := 622) (by decide +kernel), List.mem_of_getElem? (i := 623) (by decide +kernel)⟩
theorem lw_p24 : lw_okq (⟨"MasterKeysModel", "isAlike", "(II)Z"⟩, 13) := ⟨⟨by decide +kernel, by decide +kernel⟩, List.mem_of_getElem? (i := 523) (by decide +kernel), List.mem_of_getElem? (i := 626) (by decide +kernel), List.mem_of_getElem? (i := 627) (by decide +kernel)⟩
theorem lw_p25 : lw_okq (⟨"MasterKeysModel", "isHeld", "(IIII)Z"⟩, 13) := ⟨⟨by decide +kernel, by decide +kernel⟩, List.mem_of_getElem? (i := 523) (by decide +kernel), List.mem_of_getElem? (i := 630) (by decide +kernel), List.mem_of_getElem? (i := 631) (by decide +kernel)⟩
theorem lw_p26 : lw_okq (⟨"MasterKeysModel", "isFitting", "(III)Z"⟩, 13) := ⟨⟨by decide +kernel, by decide +kernel⟩, List.mem_of_getElem? (i := 523) (by decide +kernel), List.mem_of_getElem? (i := 634) (by decide +kernel), List.mem_of_getElem? (i := 635) (by decide +kernel)⟩
theorem lw_p27 : lw_okq (⟨"MasterKeysModel", "noPin", "(I)Z"⟩, 13) := ⟨⟨by decide +kernel, by decide +kernel⟩, List.mem_of_getElem? (i := 523) (by decide +kernel), List.mem_of_getElem? (i := 646) (by decide +kernel), List.mem_of_getElem? (i := 647) (by decide +kernel)⟩
theorem lw_p28 : lw_okq (⟨"MasterKeysModel", "rows", "()I"⟩, 13) := ⟨⟨by decide +kernel, by decide +kernel⟩, List.mem_of_getElem? (i := 523) (by decide +kernel), List.mem_of_getElem? (i := 666) (by decide +kernel), List.mem_of_getElem? (i := 667) (by decide +kernel)⟩
theorem lw_p29 : lw_okq (⟨"MasterKeysModel", "isFree", "(I)Z"⟩, 13) := ⟨⟨by decide +kernel, by decide +kernel⟩, List.mem_of_getElem? (i := 523) (by decide +kernel), List.mem_of_getElem? (i := 670) (by decide +kernel), List.mem_of_getElem? (i := 671) (by decide +kernel)⟩
theorem lw_p30 : lw_okq (⟨"MasterKeysModel", "doorsOfRow", "()I"⟩, 13) := ⟨⟨by decide +kernel, by decide +kernel⟩, List.mem_of_getElem? (i := 523) (by decide +kernel), List.mem_of_getElem? (i := 674) (by decide +kernel), List.mem_of_getElem? (i := 675) (by decide +kernel)⟩
def lw_privs_2 : List (MethodName × Nat) := [(⟨"MasterKeys$Rows", "countWaysBehind", "(I)V"⟩, 3), (⟨"MasterKeys$Rows", "addWays", "(IIII)V"⟩, 3), (⟨"MasterKeys$Rows", "leastDepth", "(IIIJI)I"⟩, 3), (⟨"MasterKeysModel", "noKey", "(I)Z"⟩, 13), (⟨"MasterKeysModel", "noDoor", "(I)Z"⟩, 13), (⟨"MasterKeysModel", "noDepth", "(I)Z"⟩, 13), (⟨"MasterKeysModel", "mayStand", "(II)Z"⟩, 13), (⟨"MasterKeysModel", "areGood", "(I)Z"⟩, 13), (⟨"MasterKeysModel", "isAlike", "(II)Z"⟩, 13), (⟨"MasterKeysModel", "isHeld", "(IIII)Z"⟩, 13), (⟨"MasterKeysModel", "isFitting", "(III)Z"⟩, 13), (⟨"MasterKeysModel", "noPin", "(I)Z"⟩, 13), (⟨"MasterKeysModel", "rows", "()I"⟩, 13), (⟨"MasterKeysModel", "isFree", "(I)Z"⟩, 13), (⟨"MasterKeysModel", "doorsOfRow", "()I"⟩, 13)]
theorem lw_r2 : ∀ q ∈ lw_privs_2, lw_okq q := List.forall_mem_cons.mpr ⟨lw_p16, List.forall_mem_cons.mpr ⟨lw_p17, List.forall_mem_cons.mpr ⟨lw_p18, List.forall_mem_cons.mpr ⟨lw_p19, List.forall_mem_cons.mpr ⟨lw_p20, List.forall_mem_cons.mpr ⟨lw_p21, List.forall_mem_cons.mpr ⟨lw_p22, List.forall_mem_cons.mpr ⟨lw_p23, List.forall_mem_cons.mpr ⟨lw_p24, List.forall_mem_cons.mpr ⟨lw_p25, List.forall_mem_cons.mpr ⟨lw_p26, List.forall_mem_cons.mpr ⟨lw_p27, List.forall_mem_cons.mpr ⟨lw_p28, List.forall_mem_cons.mpr ⟨lw_p29, List.forall_mem_cons.mpr ⟨lw_p30, fun _ h => absurd h List.not_mem_nil⟩⟩⟩⟩⟩⟩⟩⟩⟩⟩⟩⟩⟩⟩⟩
def lw_privs : List (MethodName × Nat) := lw_privs_1 ++ (lw_privs_2)
def lw_tbl : List Cond := k2_sels lw_privs ++ tables_1
theorem lw_privs_ok : ∀ q ∈ lw_privs, lw_okq q := by
  show ∀ q ∈ lw_privs_1 ++ (lw_privs_2), lw_okq q
  exact List.forall_mem_append.mpr ⟨lw_r1, lw_r2⟩
def tblG : List Cond := lw_tbl.filter goodWord
theorem mem_G {w : Cond} {i : Nat} (h : lw_tbl[i]? = some w) (g : goodWord w = true) : w ∈ tblG := List.mem_filter.mpr ⟨List.mem_of_getElem? h, g⟩
theorem good_G {ws : List Cond} (h : ∀ w ∈ ws, w ∈ tblG) : GoodIn tblG ws := fun w hw => ⟨h w hw, good_of_word (List.mem_filter.mp (h w hw)).2⟩
theorem tbl_G : ∀ w ∈ tblG, w ∈ lw_tbl := fun _ h => (List.mem_filter.mp h).1
theorem good_L {ws : List Cond} (h : ∀ w ∈ ws, w ∈ tblG) : GoodIn lw_tbl ws := fun w hw => ⟨tbl_G w (h w hw), good_of_word (List.mem_filter.mp (h w hw)).2⟩
theorem gCode {c2 : Cond} (h5 : c2 ∈ tblG) : ∀ w ∈ c2 :: tblG, w ∈ tblG := fun w hw => (List.mem_cons.mp hw).elim (fun e => e ▸ h5) id
theorem gV {own C : String} {idx : Nat} {y : MethodName} {c2 : Cond} (h1 : Cond.methodLink own idx y ∈ tblG) (h2 : Cond.instanceMethod y ∈ tblG) (h3 : Cond.selects C y y ∈ tblG) (h4 : Cond.initialized C ∈ tblG) (h5 : c2 ∈ tblG) : ∀ w ∈ wsV own idx C y (c2 :: tblG), w ∈ tblG := by
  intro w hw
  rcases List.mem_append.mp hw with h | h
  · simp only [List.mem_cons, List.not_mem_nil, or_false] at h
    rcases h with rfl | rfl | rfl | rfl <;> assumption
  · exact gCode h5 w h
theorem gS {own : String} {idx : Nat} {y : MethodName} {c2 : Cond} (h1 : Cond.methodLink own idx y ∈ tblG) (h2 : Cond.static y ∈ tblG) (h4 : Cond.initialized y.cls ∈ tblG) (h5 : c2 ∈ tblG) : ∀ w ∈ va_wsS own idx y (c2 :: tblG), w ∈ tblG := by
  intro w hw
  rcases List.mem_append.mp hw with h | h
  · simp only [List.mem_cons, List.not_mem_nil, or_false] at h
    rcases h with rfl | rfl | rfl <;> assumption
  · exact gCode h5 w h
abbrev R_MK : String := "MasterKeys"
abbrev R_Law : String := "MasterKeys$Law"
abbrev R_Board : String := "MasterKeys$Board"
abbrev R_Search : String := "MasterKeys$Search"
abbrev R_Rows : String := "MasterKeys$Rows"
abbrev R_RM : String := "MasterKeysModel"
abbrev R_LW : String := "MasterKeysLaw"
abbrev R_JI : String := "java/lang/Integer"
abbrev R_JL : String := "java/lang/Long"
abbrev R_ISE : String := "java/lang/IllegalStateException"
abbrev R_IAE : String := "java/lang/IllegalArgumentException"
def T_MK : u_T := fun k => match k with
  | 0 => ("MasterKeys", "law", "LMasterKeys$Law;", true)
  | 1 => ("MasterKeys", "board", "LMasterKeys$Board;", true)
  | 2 => ("MasterKeys", "search", "LMasterKeys$Search;", true)
  | 3 => ("MasterKeys", "rows", "LMasterKeys$Rows;", true)
  | _ => ("MasterKeys", "found", "Z", false)
def t_MK : Nat → FieldType := fun k => match k with
  | 0 => .object "MasterKeys$Law"
  | 1 => .object "MasterKeys$Board"
  | 2 => .object "MasterKeys$Search"
  | 3 => .object "MasterKeys$Rows"
  | _ => .boolean
theorem n_MK : ∀ a, a < 5 → ∀ b, b < 5 → a ≠ b → (T_MK a).2.1 ≠ (T_MK b).2.1 := by decide +kernel
theorem t_MK_ok : ∀ k, k < 5 → parseFieldDescriptor (T_MK k).2.2.1 = some (t_MK k) := by decide +kernel
theorem i_MK : ∀ w ∈ u_ws R_MK T_MK 5, w ∈ tblG := by decide +kernel
def T_Law : u_T := fun k => match k with
  | 0 => ("MasterKeys$Law", "pins", "I", true)
  | 1 => ("MasterKeys$Law", "depths", "I", true)
  | 2 => ("MasterKeys$Law", "step", "I", false)
  | 3 => ("MasterKeys$Law", "top", "I", false)
  | _ => ("MasterKeys$Law", "barred", "J", false)
def t_Law : Nat → FieldType := fun k => match k with
  | 0 => .int
  | 1 => .int
  | 2 => .int
  | 3 => .int
  | _ => .long
theorem n_Law : ∀ a, a < 5 → ∀ b, b < 5 → a ≠ b → (T_Law a).2.1 ≠ (T_Law b).2.1 := by decide +kernel
theorem t_Law_ok : ∀ k, k < 5 → parseFieldDescriptor (T_Law k).2.2.1 = some (t_Law k) := by decide +kernel
theorem i_Law : ∀ w ∈ u_ws R_Law T_Law 5, w ∈ tblG := by decide +kernel
def T_Board : u_T := fun k => match k with
  | 0 => ("MasterKeys$Board", "law", "LMasterKeys$Law;", true)
  | 1 => ("MasterKeys$Board", "keys", "I", false)
  | 2 => ("MasterKeys$Board", "doors", "I", false)
  | 3 => ("MasterKeys$Board", "opens", "[I", true)
  | 4 => ("MasterKeys$Board", "cuts", "[[I", true)
  | 5 => ("MasterKeys$Board", "rowOf", "[J", true)
  | _ => ("MasterKeys$Board", "held", "[[J", true)
def t_Board : Nat → FieldType := fun k => match k with
  | 0 => .object "MasterKeys$Law"
  | 1 => .int
  | 2 => .int
  | 3 => .array .int
  | 4 => .array (.array .int)
  | 5 => .array .long
  | _ => .array (.array .long)
theorem n_Board : ∀ a, a < 7 → ∀ b, b < 7 → a ≠ b → (T_Board a).2.1 ≠ (T_Board b).2.1 := by decide +kernel
theorem t_Board_ok : ∀ k, k < 7 → parseFieldDescriptor (T_Board k).2.2.1 = some (t_Board k) := by decide +kernel
theorem i_Board : ∀ w ∈ u_ws R_Board T_Board 7, w ∈ tblG := by decide +kernel
def T_Search : u_T := fun k => match k with
  | 0 => ("MasterKeys$Search", "law", "LMasterKeys$Law;", true)
  | 1 => ("MasterKeys$Search", "board", "LMasterKeys$Board;", true)
  | 2 => ("MasterKeys$Search", "made", "I", false)
  | 3 => ("MasterKeys$Search", "key", "I", false)
  | _ => ("MasterKeys$Search", "pin", "I", false)
def t_Search : Nat → FieldType := fun k => match k with
  | 0 => .object "MasterKeys$Law"
  | 1 => .object "MasterKeys$Board"
  | 2 => .int
  | 3 => .int
  | _ => .int
theorem n_Search : ∀ a, a < 5 → ∀ b, b < 5 → a ≠ b → (T_Search a).2.1 ≠ (T_Search b).2.1 := by decide +kernel
theorem t_Search_ok : ∀ k, k < 5 → parseFieldDescriptor (T_Search k).2.2.1 = some (t_Search k) := by decide +kernel
theorem i_Search : ∀ w ∈ u_ws R_Search T_Search 5, w ∈ tblG := by decide +kernel
def T_Rows : u_T := fun k => match k with
  | 0 => ("MasterKeys$Rows", "law", "LMasterKeys$Law;", true)
  | 1 => ("MasterKeys$Rows", "board", "LMasterKeys$Board;", true)
  | _ => ("MasterKeys$Rows", "ways", "[[I", true)
def t_Rows : Nat → FieldType := fun k => match k with
  | 0 => .object "MasterKeys$Law"
  | 1 => .object "MasterKeys$Board"
  | _ => .array (.array .int)
theorem n_Rows : ∀ a, a < 3 → ∀ b, b < 3 → a ≠ b → (T_Rows a).2.1 ≠ (T_Rows b).2.1 := by decide +kernel
theorem t_Rows_ok : ∀ k, k < 3 → parseFieldDescriptor (T_Rows k).2.2.1 = some (t_Rows k) := by decide +kernel
theorem i_Rows : ∀ w ∈ u_ws R_Rows T_Rows 3, w ∈ tblG := by decide +kernel
def T_RM : u_T := fun k => match k with
  | 0 => ("MasterKeysModel", "code", "I", false)
  | 1 => ("MasterKeysModel", "pins", "I", true)
  | 2 => ("MasterKeysModel", "depths", "I", true)
  | 3 => ("MasterKeysModel", "keys", "I", false)
  | 4 => ("MasterKeysModel", "doors", "I", false)
  | 5 => ("MasterKeysModel", "must", "[Z", true)
  | 6 => ("MasterKeysModel", "most", "I", false)
  | 7 => ("MasterKeysModel", "top", "I", false)
  | 8 => ("MasterKeysModel", "barred", "[Z", true)
  | 9 => ("MasterKeysModel", "found", "Z", false)
  | 10 => ("MasterKeysModel", "tries", "I", false)
  | 11 => ("MasterKeysModel", "cuts", "[I", true)
  | _ => ("MasterKeysModel", "row", "[I", true)
def t_RM : Nat → FieldType := fun k => match k with
  | 0 => .int
  | 1 => .int
  | 2 => .int
  | 3 => .int
  | 4 => .int
  | 5 => .array .boolean
  | 6 => .int
  | 7 => .int
  | 8 => .array .boolean
  | 9 => .boolean
  | 10 => .int
  | 11 => .array .int
  | _ => .array .int
theorem n_RM : ∀ a, a < 13 → ∀ b, b < 13 → a ≠ b → (T_RM a).2.1 ≠ (T_RM b).2.1 := by decide +kernel
theorem t_RM_ok : ∀ k, k < 13 → parseFieldDescriptor (T_RM k).2.2.1 = some (t_RM k) := by decide +kernel
theorem i_RM : ∀ w ∈ u_ws R_RM T_RM 13, w ∈ tblG := by decide +kernel
abbrev vwCl : List vw_C := [(R_MK, T_MK, 5), (R_Law, T_Law, 5), (R_Board, T_Board, 7), (R_Search, T_Search, 5), (R_Rows, T_Rows, 3), (R_RM, T_RM, 13)]
abbrev b_MK_init : ByteArray := prog_1_method_1_code
abbrev y_MK_init : MethodName := ⟨R_MK, "<init>", "(II)V"⟩
abbrev k_MK_init : Cond := .code y_MK_init b_MK_init 3 none
abbrev w_MK_init : List Cond := k_MK_init :: tblG
set_option maxRecDepth 100000 in
theorem mk_MK_init : k_MK_init ∈ tblG := mem_G (i := 50) rfl (by decide +kernel)
abbrev b_Law_init : ByteArray := prog_3_method_1_code
abbrev y_Law_init : MethodName := ⟨R_Law, "<init>", "(II)V"⟩
abbrev k_Law_init : Cond := .code y_Law_init b_Law_init 3 none
abbrev w_Law_init : List Cond := k_Law_init :: tblG
set_option maxRecDepth 100000 in
theorem mk_Law_init : k_Law_init ∈ tblG := mem_G (i := 64) rfl (by decide +kernel)
abbrev b_Board_init : ByteArray := prog_2_method_1_code
abbrev y_Board_init : MethodName := ⟨R_Board, "<init>", "(LMasterKeys$Law;)V"⟩
abbrev k_Board_init : Cond := .code y_Board_init b_Board_init 2 none
abbrev w_Board_init : List Cond := k_Board_init :: tblG
set_option maxRecDepth 100000 in
theorem mk_Board_init : k_Board_init ∈ tblG := mem_G (i := 96) rfl (by decide +kernel)
abbrev b_Search_init : ByteArray := prog_5_method_1_code
abbrev y_Search_init : MethodName := ⟨R_Search, "<init>", "(LMasterKeys$Law;LMasterKeys$Board;)V"⟩
abbrev k_Search_init : Cond := .code y_Search_init b_Search_init 3 none
abbrev w_Search_init : List Cond := k_Search_init :: tblG
set_option maxRecDepth 100000 in
theorem mk_Search_init : k_Search_init ∈ tblG := mem_G (i := 138) rfl (by decide +kernel)
abbrev b_Rows_init : ByteArray := prog_4_method_1_code
abbrev y_Rows_init : MethodName := ⟨R_Rows, "<init>", "(LMasterKeys$Law;LMasterKeys$Board;)V"⟩
abbrev k_Rows_init : Cond := .code y_Rows_init b_Rows_init 3 none
abbrev w_Rows_init : List Cond := k_Rows_init :: tblG
set_option maxRecDepth 100000 in
theorem mk_Rows_init : k_Rows_init ∈ tblG := mem_G (i := 161) rfl (by decide +kernel)
abbrev b_MK_tries : ByteArray := prog_1_method_9_code
abbrev y_MK_tries : MethodName := ⟨R_MK, "tries", "()I"⟩
abbrev k_MK_tries : Cond := .code y_MK_tries b_MK_tries 1 (some .int)
abbrev w_MK_tries : List Cond := k_MK_tries :: tblG
set_option maxRecDepth 100000 in
theorem mk_MK_tries : k_MK_tries ∈ tblG := mem_G (i := 193) rfl (by decide +kernel)
abbrev b_MK_wrong : ByteArray := prog_1_method_13_code
abbrev y_MK_wrong : MethodName := ⟨R_MK, "wrong", "()I"⟩
abbrev k_MK_wrong : Cond := .code y_MK_wrong b_MK_wrong 3 (some .int)
abbrev w_MK_wrong : List Cond := k_MK_wrong :: tblG
set_option maxRecDepth 100000 in
theorem mk_MK_wrong : k_MK_wrong ∈ tblG := mem_G (i := 197) rfl (by decide +kernel)
abbrev b_Board_doorsOf : ByteArray := prog_2_method_7_code
abbrev y_Board_doorsOf : MethodName := ⟨R_Board, "doorsOf", "(I)I"⟩
abbrev k_Board_doorsOf : Cond := .code y_Board_doorsOf b_Board_doorsOf 2 (some .int)
abbrev w_Board_doorsOf : List Cond := k_Board_doorsOf :: tblG
set_option maxRecDepth 100000 in
theorem mk_Board_doorsOf : k_Board_doorsOf ∈ tblG := mem_G (i := 201) rfl (by decide +kernel)
abbrev b_Board_doorsFitted : ByteArray := prog_2_method_8_code
abbrev y_Board_doorsFitted : MethodName := ⟨R_Board, "doorsFitted", "(J)I"⟩
abbrev k_Board_doorsFitted : Cond := .code y_Board_doorsFitted b_Board_doorsFitted 5 (some .int)
abbrev w_Board_doorsFitted : List Cond := k_Board_doorsFitted :: tblG
set_option maxRecDepth 100000 in
theorem mk_Board_doorsFitted : k_Board_doorsFitted ∈ tblG := mem_G (i := 205) rfl (by decide +kernel)
abbrev b_Board_isWithin : ByteArray := prog_2_method_17_code
abbrev y_Board_isWithin : MethodName := ⟨R_Board, "isWithin", "(JJ)Z"⟩
abbrev k_Board_isWithin : Cond := .code y_Board_isWithin b_Board_isWithin 4 (some .boolean)
abbrev w_Board_isWithin : List Cond := k_Board_isWithin :: tblG
set_option maxRecDepth 100000 in
theorem mk_Board_isWithin : k_Board_isWithin ∈ tblG := mem_G (i := 208) rfl (by decide +kernel)
abbrev b_JI_bitCount : ByteArray := prog_11_method_49_code
abbrev y_JI_bitCount : MethodName := ⟨R_JI, "bitCount", "(I)I"⟩
abbrev k_JI_bitCount : Cond := .code y_JI_bitCount b_JI_bitCount 1 (some .int)
abbrev w_JI_bitCount : List Cond := k_JI_bitCount :: tblG
set_option maxRecDepth 100000 in
theorem mk_JI_bitCount : k_JI_bitCount ∈ tblG := mem_G (i := 212) rfl (by decide +kernel)
abbrev b_LW_cell : ByteArray := method_2_code
abbrev y_LW_cell : MethodName := ⟨R_LW, "cell", "([II)I"⟩
abbrev k_LW_cell : Cond := .code y_LW_cell b_LW_cell 2 (some .int)
abbrev w_LW_cell : List Cond := k_LW_cell :: tblG
set_option maxRecDepth 100000 in
theorem mk_LW_cell : k_LW_cell ∈ tblG := mem_G (i := 218) rfl (by decide +kernel)
abbrev b_LW_key : ByteArray := method_3_code
abbrev y_LW_key : MethodName := ⟨R_LW, "key", "(LMasterKeys;[J)I"⟩
abbrev k_LW_key : Cond := .codeWith y_LW_key b_LW_key 3 (some .int) [(0, 8, 11, 13)]
abbrev w_LW_key : List Cond := k_LW_key :: tblG
set_option maxRecDepth 100000 in
theorem mk_LW_key : k_LW_key ∈ tblG := mem_G (i := 221) rfl (by decide +kernel)
abbrev b_MK_key : ByteArray := prog_1_method_2_code
abbrev y_MK_key : MethodName := ⟨R_MK, "key", "()I"⟩
abbrev k_MK_key : Cond := .code y_MK_key b_MK_key 1 (some .int)
abbrev w_MK_key : List Cond := k_MK_key :: tblG
set_option maxRecDepth 100000 in
theorem mk_MK_key : k_MK_key ∈ tblG := mem_G (i := 226) rfl (by decide +kernel)
abbrev b_LW_door : ByteArray := method_4_code
abbrev y_LW_door : MethodName := ⟨R_LW, "door", "(LMasterKeys;[J)I"⟩
abbrev k_LW_door : Cond := .codeWith y_LW_door b_LW_door 3 (some .int) [(0, 8, 11, 13)]
abbrev w_LW_door : List Cond := k_LW_door :: tblG
set_option maxRecDepth 100000 in
theorem mk_LW_door : k_LW_door ∈ tblG := mem_G (i := 296) rfl (by decide +kernel)
abbrev b_MK_door : ByteArray := prog_1_method_3_code
abbrev y_MK_door : MethodName := ⟨R_MK, "door", "()I"⟩
abbrev k_MK_door : Cond := .code y_MK_door b_MK_door 1 (some .int)
abbrev w_MK_door : List Cond := k_MK_door :: tblG
set_option maxRecDepth 100000 in
theorem mk_MK_door : k_MK_door ∈ tblG := mem_G (i := 300) rfl (by decide +kernel)
abbrev b_LW_must : ByteArray := method_5_code
abbrev y_LW_must : MethodName := ⟨R_LW, "must", "(LMasterKeys;IIZ[J)I"⟩
abbrev k_LW_must : Cond := .codeWith y_LW_must b_LW_must 6 (some .int) [(0, 19, 22, 22)]
abbrev w_LW_must : List Cond := k_LW_must :: tblG
set_option maxRecDepth 100000 in
theorem mk_LW_must : k_LW_must ∈ tblG := mem_G (i := 304) rfl (by decide +kernel)
abbrev b_MK_must : ByteArray := prog_1_method_4_code
abbrev y_MK_must : MethodName := ⟨R_MK, "must", "(IIZ)Z"⟩
abbrev k_MK_must : Cond := .code y_MK_must b_MK_must 5 (some .boolean)
abbrev w_MK_must : List Cond := k_MK_must :: tblG
set_option maxRecDepth 100000 in
theorem mk_MK_must : k_MK_must ∈ tblG := mem_G (i := 309) rfl (by decide +kernel)
abbrev b_MK_needKey : ByteArray := prog_1_method_17_code
abbrev y_MK_needKey : MethodName := ⟨R_MK, "needKey", "(I)V"⟩
abbrev k_MK_needKey : Cond := .code y_MK_needKey b_MK_needKey 2 none
abbrev w_MK_needKey : List Cond := k_MK_needKey :: tblG
set_option maxRecDepth 100000 in
theorem mk_MK_needKey : k_MK_needKey ∈ tblG := mem_G (i := 313) rfl (by decide +kernel)
abbrev b_MK_needDoor : ByteArray := prog_1_method_18_code
abbrev y_MK_needDoor : MethodName := ⟨R_MK, "needDoor", "(I)V"⟩
abbrev k_MK_needDoor : Cond := .code y_MK_needDoor b_MK_needDoor 2 none
abbrev w_MK_needDoor : List Cond := k_MK_needDoor :: tblG
set_option maxRecDepth 100000 in
theorem mk_MK_needDoor : k_MK_needDoor ∈ tblG := mem_G (i := 333) rfl (by decide +kernel)
abbrev b_Board_mustOpen : ByteArray := prog_2_method_4_code
abbrev y_Board_mustOpen : MethodName := ⟨R_Board, "mustOpen", "(II)Z"⟩
abbrev k_Board_mustOpen : Cond := .code y_Board_mustOpen b_Board_mustOpen 3 (some .boolean)
abbrev w_Board_mustOpen : List Cond := k_Board_mustOpen :: tblG
set_option maxRecDepth 100000 in
theorem mk_Board_mustOpen : k_Board_mustOpen ∈ tblG := mem_G (i := 338) rfl (by decide +kernel)
abbrev b_Board_tell : ByteArray := prog_2_method_5_code
abbrev y_Board_tell : MethodName := ⟨R_Board, "tell", "(IIZ)V"⟩
abbrev k_Board_tell : Cond := .code y_Board_tell b_Board_tell 4 none
abbrev w_Board_tell : List Cond := k_Board_tell :: tblG
set_option maxRecDepth 100000 in
theorem mk_Board_tell : k_Board_tell ∈ tblG := mem_G (i := 342) rfl (by decide +kernel)
abbrev b_LW_step : ByteArray := method_6_code
abbrev y_LW_step : MethodName := ⟨R_LW, "step", "(LMasterKeys;I[J)I"⟩
abbrev k_LW_step : Cond := .codeWith y_LW_step b_LW_step 4 (some .int) [(0, 9, 12, 22)]
abbrev w_LW_step : List Cond := k_LW_step :: tblG
set_option maxRecDepth 100000 in
theorem mk_LW_step : k_LW_step ∈ tblG := mem_G (i := 345) rfl (by decide +kernel)
abbrev b_MK_step : ByteArray := prog_1_method_5_code
abbrev y_MK_step : MethodName := ⟨R_MK, "step", "(I)I"⟩
abbrev k_MK_step : Cond := .code y_MK_step b_MK_step 3 (some .int)
abbrev w_MK_step : List Cond := k_MK_step :: tblG
set_option maxRecDepth 100000 in
theorem mk_MK_step : k_MK_step ∈ tblG := mem_G (i := 349) rfl (by decide +kernel)
abbrev b_LW_bar : ByteArray := method_7_code
abbrev y_LW_bar : MethodName := ⟨R_LW, "bar", "(LMasterKeys;IIZ[J)I"⟩
abbrev k_LW_bar : Cond := .codeWith y_LW_bar b_LW_bar 6 (some .int) [(0, 19, 22, 22)]
abbrev w_LW_bar : List Cond := k_LW_bar :: tblG
set_option maxRecDepth 100000 in
theorem mk_LW_bar : k_LW_bar ∈ tblG := mem_G (i := 353) rfl (by decide +kernel)
abbrev b_MK_bar : ByteArray := prog_1_method_6_code
abbrev y_MK_bar : MethodName := ⟨R_MK, "bar", "(IIZ)Z"⟩
abbrev k_MK_bar : Cond := .code y_MK_bar b_MK_bar 5 (some .boolean)
abbrev w_MK_bar : List Cond := k_MK_bar :: tblG
set_option maxRecDepth 100000 in
theorem mk_MK_bar : k_MK_bar ∈ tblG := mem_G (i := 357) rfl (by decide +kernel)
abbrev b_MK_needDepth : ByteArray := prog_1_method_20_code
abbrev y_MK_needDepth : MethodName := ⟨R_MK, "needDepth", "(I)V"⟩
abbrev k_MK_needDepth : Cond := .code y_MK_needDepth b_MK_needDepth 2 none
abbrev w_MK_needDepth : List Cond := k_MK_needDepth :: tblG
set_option maxRecDepth 100000 in
theorem mk_MK_needDepth : k_MK_needDepth ∈ tblG := mem_G (i := 361) rfl (by decide +kernel)
abbrev b_Law_isBarred : ByteArray := prog_3_method_2_code
abbrev y_Law_isBarred : MethodName := ⟨R_Law, "isBarred", "(II)Z"⟩
abbrev k_Law_isBarred : Cond := .code y_Law_isBarred b_Law_isBarred 3 (some .boolean)
abbrev w_Law_isBarred : List Cond := k_Law_isBarred :: tblG
set_option maxRecDepth 100000 in
theorem mk_Law_isBarred : k_Law_isBarred ∈ tblG := mem_G (i := 366) rfl (by decide +kernel)
abbrev b_Law_pairBit : ByteArray := prog_3_method_5_code
abbrev y_Law_pairBit : MethodName := ⟨R_Law, "pairBit", "(II)J"⟩
abbrev k_Law_pairBit : Cond := .code y_Law_pairBit b_Law_pairBit 2 (some .long)
abbrev w_Law_pairBit : List Cond := k_Law_pairBit :: tblG
set_option maxRecDepth 100000 in
theorem mk_Law_pairBit : k_Law_pairBit ∈ tblG := mem_G (i := 369) rfl (by decide +kernel)
abbrev b_Law_setBarred : ByteArray := prog_3_method_3_code
abbrev y_Law_setBarred : MethodName := ⟨R_Law, "setBarred", "(IIZ)V"⟩
abbrev k_Law_setBarred : Cond := .code y_Law_setBarred b_Law_setBarred 4 none
abbrev w_Law_setBarred : List Cond := k_Law_setBarred :: tblG
set_option maxRecDepth 100000 in
theorem mk_Law_setBarred : k_Law_setBarred ∈ tblG := mem_G (i := 373) rfl (by decide +kernel)
abbrev b_LW_top : ByteArray := method_8_code
abbrev y_LW_top : MethodName := ⟨R_LW, "top", "(LMasterKeys;I[J)I"⟩
abbrev k_LW_top : Cond := .codeWith y_LW_top b_LW_top 4 (some .int) [(0, 9, 12, 22)]
abbrev w_LW_top : List Cond := k_LW_top :: tblG
set_option maxRecDepth 100000 in
theorem mk_LW_top : k_LW_top ∈ tblG := mem_G (i := 377) rfl (by decide +kernel)
abbrev b_MK_top : ByteArray := prog_1_method_7_code
abbrev y_MK_top : MethodName := ⟨R_MK, "top", "(I)I"⟩
abbrev k_MK_top : Cond := .code y_MK_top b_MK_top 3 (some .int)
abbrev w_MK_top : List Cond := k_MK_top :: tblG
set_option maxRecDepth 100000 in
theorem mk_MK_top : k_MK_top ∈ tblG := mem_G (i := 381) rfl (by decide +kernel)
abbrev b_LW_run : ByteArray := method_9_code
abbrev y_LW_run : MethodName := ⟨R_LW, "run", "(LMasterKeys;I[J)I"⟩
abbrev k_LW_run : Cond := .codeWith y_LW_run b_LW_run 4 (some .int) [(0, 9, 12, 22), (0, 9, 15, 13)]
abbrev w_LW_run : List Cond := k_LW_run :: tblG
set_option maxRecDepth 100000 in
theorem mk_LW_run : k_LW_run ∈ tblG := mem_G (i := 385) rfl (by decide +kernel)
abbrev b_MK_run : ByteArray := prog_1_method_8_code
abbrev y_MK_run : MethodName := ⟨R_MK, "run", "(I)I"⟩
abbrev k_MK_run : Cond := .code y_MK_run b_MK_run 3 (some .int)
abbrev w_MK_run : List Cond := k_MK_run :: tblG
set_option maxRecDepth 100000 in
theorem mk_MK_run : k_MK_run ∈ tblG := mem_G (i := 389) rfl (by decide +kernel)
abbrev b_Search_look : ByteArray := prog_5_method_2_code
abbrev y_Search_look : MethodName := ⟨R_Search, "look", "(I)I"⟩
abbrev k_Search_look : Cond := .code y_Search_look b_Search_look 2 (some .int)
abbrev w_Search_look : List Cond := k_Search_look :: tblG
set_option maxRecDepth 100000 in
theorem mk_Search_look : k_Search_look ∈ tblG := mem_G (i := 396) rfl (by decide +kernel)
abbrev b_Search_stands : ByteArray := prog_5_method_3_code
abbrev y_Search_stands : MethodName := ⟨R_Search, "stands", "()Z"⟩
abbrev k_Search_stands : Cond := .code y_Search_stands b_Search_stands 2 (some .boolean)
abbrev w_Search_stands : List Cond := k_Search_stands :: tblG
set_option maxRecDepth 100000 in
theorem mk_Search_stands : k_Search_stands ∈ tblG := mem_G (i := 400) rfl (by decide +kernel)
abbrev b_Law_mayFollow : ByteArray := prog_3_method_4_code
abbrev y_Law_mayFollow : MethodName := ⟨R_Law, "mayFollow", "(II)Z"⟩
abbrev k_Law_mayFollow : Cond := .code y_Law_mayFollow b_Law_mayFollow 3 (some .boolean)
abbrev w_Law_mayFollow : List Cond := k_Law_mayFollow :: tblG
set_option maxRecDepth 100000 in
theorem mk_Law_mayFollow : k_Law_mayFollow ∈ tblG := mem_G (i := 404) rfl (by decide +kernel)
abbrev b_Board_accepts : ByteArray := prog_2_method_11_code
abbrev y_Board_accepts : MethodName := ⟨R_Board, "accepts", "(I)Z"⟩
abbrev k_Board_accepts : Cond := .code y_Board_accepts b_Board_accepts 5 (some .boolean)
abbrev w_Board_accepts : List Cond := k_Board_accepts :: tblG
set_option maxRecDepth 100000 in
theorem mk_Board_accepts : k_Board_accepts ∈ tblG := mem_G (i := 412) rfl (by decide +kernel)
abbrev b_Board_rowFromCuts : ByteArray := prog_2_method_16_code
abbrev y_Board_rowFromCuts : MethodName := ⟨R_Board, "rowFromCuts", "(I)J"⟩
abbrev k_Board_rowFromCuts : Cond := .code y_Board_rowFromCuts b_Board_rowFromCuts 5 (some .long)
abbrev w_Board_rowFromCuts : List Cond := k_Board_rowFromCuts :: tblG
set_option maxRecDepth 100000 in
theorem mk_Board_rowFromCuts : k_Board_rowFromCuts ∈ tblG := mem_G (i := 416) rfl (by decide +kernel)
abbrev b_Board_bit : ByteArray := prog_2_method_2_code
abbrev y_Board_bit : MethodName := ⟨R_Board, "bit", "(II)J"⟩
abbrev k_Board_bit : Cond := .code y_Board_bit b_Board_bit 2 (some .long)
abbrev w_Board_bit : List Cond := k_Board_bit :: tblG
set_option maxRecDepth 100000 in
theorem mk_Board_bit : k_Board_bit ∈ tblG := mem_G (i := 419) rfl (by decide +kernel)
abbrev b_Board_isTaken : ByteArray := prog_2_method_15_code
abbrev y_Board_isTaken : MethodName := ⟨R_Board, "isTaken", "(JI)Z"⟩
abbrev k_Board_isTaken : Cond := .code y_Board_isTaken b_Board_isTaken 5 (some .boolean)
abbrev w_Board_isTaken : List Cond := k_Board_isTaken :: tblG
set_option maxRecDepth 100000 in
theorem mk_Board_isTaken : k_Board_isTaken ∈ tblG := mem_G (i := 423) rfl (by decide +kernel)
abbrev b_Board_doorAccepts : ByteArray := prog_2_method_12_code
abbrev y_Board_doorAccepts : MethodName := ⟨R_Board, "doorAccepts", "(II)Z"⟩
abbrev k_Board_doorAccepts : Cond := .code y_Board_doorAccepts b_Board_doorAccepts 7 (some .boolean)
abbrev w_Board_doorAccepts : List Cond := k_Board_doorAccepts :: tblG
set_option maxRecDepth 100000 in
theorem mk_Board_doorAccepts : k_Board_doorAccepts ∈ tblG := mem_G (i := 427) rfl (by decide +kernel)
abbrev b_Board_isAboveTop : ByteArray := prog_2_method_13_code
abbrev y_Board_isAboveTop : MethodName := ⟨R_Board, "isAboveTop", "(J)Z"⟩
abbrev k_Board_isAboveTop : Cond := .code y_Board_isAboveTop b_Board_isAboveTop 4 (some .boolean)
abbrev w_Board_isAboveTop : List Cond := k_Board_isAboveTop :: tblG
set_option maxRecDepth 100000 in
theorem mk_Board_isAboveTop : k_Board_isAboveTop ∈ tblG := mem_G (i := 432) rfl (by decide +kernel)
abbrev b_JL_bitCount : ByteArray := prog_12_method_50_code
abbrev y_JL_bitCount : MethodName := ⟨R_JL, "bitCount", "(J)I"⟩
abbrev k_JL_bitCount : Cond := .code y_JL_bitCount b_JL_bitCount 2 (some .int)
abbrev w_JL_bitCount : List Cond := k_JL_bitCount :: tblG
set_option maxRecDepth 100000 in
theorem mk_JL_bitCount : k_JL_bitCount ∈ tblG := mem_G (i := 436) rfl (by decide +kernel)
abbrev b_Board_strangerFits : ByteArray := prog_2_method_14_code
abbrev y_Board_strangerFits : MethodName := ⟨R_Board, "strangerFits", "(JII)Z"⟩
abbrev k_Board_strangerFits : Cond := .code y_Board_strangerFits b_Board_strangerFits 6 (some .boolean)
abbrev w_Board_strangerFits : List Cond := k_Board_strangerFits :: tblG
set_option maxRecDepth 100000 in
theorem mk_Board_strangerFits : k_Board_strangerFits ∈ tblG := mem_G (i := 443) rfl (by decide +kernel)
abbrev b_Search_goBack : ByteArray := prog_5_method_5_code
abbrev y_Search_goBack : MethodName := ⟨R_Search, "goBack", "()Z"⟩
abbrev k_Search_goBack : Cond := .code y_Search_goBack b_Search_goBack 1 (some .boolean)
abbrev w_Search_goBack : List Cond := k_Search_goBack :: tblG
set_option maxRecDepth 100000 in
theorem mk_Search_goBack : k_Search_goBack ∈ tblG := mem_G (i := 447) rfl (by decide +kernel)
abbrev b_Search_goOn : ByteArray := prog_5_method_4_code
abbrev y_Search_goOn : MethodName := ⟨R_Search, "goOn", "()Z"⟩
abbrev k_Search_goOn : Cond := .code y_Search_goOn b_Search_goOn 1 (some .boolean)
abbrev w_Search_goOn : List Cond := k_Search_goOn :: tblG
set_option maxRecDepth 100000 in
theorem mk_Search_goOn : k_Search_goOn ∈ tblG := mem_G (i := 451) rfl (by decide +kernel)
abbrev b_LW_cut : ByteArray := method_10_code
abbrev y_LW_cut : MethodName := ⟨R_LW, "cut", "(LMasterKeys;II[J)I"⟩
abbrev k_LW_cut : Cond := .codeWith y_LW_cut b_LW_cut 5 (some .int) [(0, 10, 13, 22)]
abbrev w_LW_cut : List Cond := k_LW_cut :: tblG
set_option maxRecDepth 100000 in
theorem mk_LW_cut : k_LW_cut ∈ tblG := mem_G (i := 454) rfl (by decide +kernel)
abbrev b_MK_cut : ByteArray := prog_1_method_10_code
abbrev y_MK_cut : MethodName := ⟨R_MK, "cut", "(II)I"⟩
abbrev k_MK_cut : Cond := .code y_MK_cut b_MK_cut 3 (some .int)
abbrev w_MK_cut : List Cond := k_MK_cut :: tblG
set_option maxRecDepth 100000 in
theorem mk_MK_cut : k_MK_cut ∈ tblG := mem_G (i := 458) rfl (by decide +kernel)
abbrev b_MK_needPin : ByteArray := prog_1_method_19_code
abbrev y_MK_needPin : MethodName := ⟨R_MK, "needPin", "(I)V"⟩
abbrev k_MK_needPin : Cond := .code y_MK_needPin b_MK_needPin 2 none
abbrev w_MK_needPin : List Cond := k_MK_needPin :: tblG
set_option maxRecDepth 100000 in
theorem mk_MK_needPin : k_MK_needPin ∈ tblG := mem_G (i := 462) rfl (by decide +kernel)
abbrev b_LW_holds : ByteArray := method_11_code
abbrev y_LW_holds : MethodName := ⟨R_LW, "holds", "(LMasterKeys;III[J)I"⟩
abbrev k_LW_holds : Cond := .codeWith y_LW_holds b_LW_holds 6 (some .int) [(0, 19, 22, 22)]
abbrev w_LW_holds : List Cond := k_LW_holds :: tblG
set_option maxRecDepth 100000 in
theorem mk_LW_holds : k_LW_holds ∈ tblG := mem_G (i := 466) rfl (by decide +kernel)
abbrev b_MK_holds : ByteArray := prog_1_method_11_code
abbrev y_MK_holds : MethodName := ⟨R_MK, "holds", "(III)Z"⟩
abbrev k_MK_holds : Cond := .code y_MK_holds b_MK_holds 4 (some .boolean)
abbrev w_MK_holds : List Cond := k_MK_holds :: tblG
set_option maxRecDepth 100000 in
theorem mk_MK_holds : k_MK_holds ∈ tblG := mem_G (i := 470) rfl (by decide +kernel)
abbrev b_Board_doorsHolding : ByteArray := prog_2_method_6_code
abbrev y_Board_doorsHolding : MethodName := ⟨R_Board, "doorsHolding", "(II)I"⟩
abbrev k_Board_doorsHolding : Cond := .code y_Board_doorsHolding b_Board_doorsHolding 3 (some .int)
abbrev w_Board_doorsHolding : List Cond := k_Board_doorsHolding :: tblG
set_option maxRecDepth 100000 in
theorem mk_Board_doorsHolding : k_Board_doorsHolding ∈ tblG := mem_G (i := 474) rfl (by decide +kernel)
abbrev b_LW_fits : ByteArray := method_12_code
abbrev y_LW_fits : MethodName := ⟨R_LW, "fits", "(LMasterKeys;II[J)I"⟩
abbrev k_LW_fits : Cond := .codeWith y_LW_fits b_LW_fits 5 (some .int) [(0, 17, 20, 22)]
abbrev w_LW_fits : List Cond := k_LW_fits :: tblG
set_option maxRecDepth 100000 in
theorem mk_LW_fits : k_LW_fits ∈ tblG := mem_G (i := 477) rfl (by decide +kernel)
abbrev b_MK_fits : ByteArray := prog_1_method_12_code
abbrev y_MK_fits : MethodName := ⟨R_MK, "fits", "(II)Z"⟩
abbrev k_MK_fits : Cond := .code y_MK_fits b_MK_fits 3 (some .boolean)
abbrev w_MK_fits : List Cond := k_MK_fits :: tblG
set_option maxRecDepth 100000 in
theorem mk_MK_fits : k_MK_fits ∈ tblG := mem_G (i := 481) rfl (by decide +kernel)
abbrev b_LW_left : ByteArray := method_13_code
abbrev y_LW_left : MethodName := ⟨R_LW, "left", "(LMasterKeys;[J)I"⟩
abbrev k_LW_left : Cond := .codeWith y_LW_left b_LW_left 3 (some .int) [(0, 8, 11, 13)]
abbrev w_LW_left : List Cond := k_LW_left :: tblG
set_option maxRecDepth 100000 in
theorem mk_LW_left : k_LW_left ∈ tblG := mem_G (i := 484) rfl (by decide +kernel)
abbrev b_MK_left : ByteArray := prog_1_method_14_code
abbrev y_MK_left : MethodName := ⟨R_MK, "left", "()I"⟩
abbrev k_MK_left : Cond := .code y_MK_left b_MK_left 1 (some .int)
abbrev w_MK_left : List Cond := k_MK_left :: tblG
set_option maxRecDepth 100000 in
theorem mk_MK_left : k_MK_left ∈ tblG := mem_G (i := 488) rfl (by decide +kernel)
abbrev b_MK_needPlan : ByteArray := prog_1_method_21_code
abbrev y_MK_needPlan : MethodName := ⟨R_MK, "needPlan", "()V"⟩
abbrev k_MK_needPlan : Cond := .code y_MK_needPlan b_MK_needPlan 1 none
abbrev w_MK_needPlan : List Cond := k_MK_needPlan :: tblG
set_option maxRecDepth 100000 in
theorem mk_MK_needPlan : k_MK_needPlan ∈ tblG := mem_G (i := 492) rfl (by decide +kernel)
abbrev b_Rows_countFree : ByteArray := prog_4_method_2_code
abbrev y_Rows_countFree : MethodName := ⟨R_Rows, "countFree", "(I)I"⟩
abbrev k_Rows_countFree : Cond := .code y_Rows_countFree b_Rows_countFree 4 (some .int)
abbrev w_Rows_countFree : List Cond := k_Rows_countFree :: tblG
set_option maxRecDepth 100000 in
theorem mk_Rows_countFree : k_Rows_countFree ∈ tblG := mem_G (i := 497) rfl (by decide +kernel)
abbrev b_Rows_countWays : ByteArray := prog_4_method_5_code
abbrev y_Rows_countWays : MethodName := ⟨R_Rows, "countWays", "(I)V"⟩
abbrev k_Rows_countWays : Cond := .code y_Rows_countWays b_Rows_countWays 5 none
abbrev w_Rows_countWays : List Cond := k_Rows_countWays :: tblG
set_option maxRecDepth 100000 in
theorem mk_Rows_countWays : k_Rows_countWays ∈ tblG := mem_G (i := 501) rfl (by decide +kernel)
abbrev b_Rows_state : ByteArray := prog_4_method_8_code
abbrev y_Rows_state : MethodName := ⟨R_Rows, "state", "(II)I"⟩
abbrev k_Rows_state : Cond := .code y_Rows_state b_Rows_state 2 (some .int)
abbrev w_Rows_state : List Cond := k_Rows_state :: tblG
set_option maxRecDepth 100000 in
theorem mk_Rows_state : k_Rows_state ∈ tblG := mem_G (i := 504) rfl (by decide +kernel)
abbrev b_Rows_countWaysBehind : ByteArray := prog_4_method_6_code
abbrev y_Rows_countWaysBehind : MethodName := ⟨R_Rows, "countWaysBehind", "(I)V"⟩
abbrev k_Rows_countWaysBehind : Cond := .code y_Rows_countWaysBehind b_Rows_countWaysBehind 5 none
abbrev w_Rows_countWaysBehind : List Cond := k_Rows_countWaysBehind :: tblG
set_option maxRecDepth 100000 in
theorem mk_Rows_countWaysBehind : k_Rows_countWaysBehind ∈ tblG := mem_G (i := 508) rfl (by decide +kernel)
abbrev b_Rows_addWays : ByteArray := prog_4_method_7_code
abbrev y_Rows_addWays : MethodName := ⟨R_Rows, "addWays", "(IIII)V"⟩
abbrev k_Rows_addWays : Cond := .code y_Rows_addWays b_Rows_addWays 6 none
abbrev w_Rows_addWays : List Cond := k_Rows_addWays :: tblG
set_option maxRecDepth 100000 in
theorem mk_Rows_addWays : k_Rows_addWays ∈ tblG := mem_G (i := 514) rfl (by decide +kernel)
abbrev b_Board_countKeys : ByteArray := prog_2_method_9_code
abbrev y_Board_countKeys : MethodName := ⟨R_Board, "countKeys", "(JI)I"⟩
abbrev k_Board_countKeys : Cond := .code y_Board_countKeys b_Board_countKeys 6 (some .int)
abbrev w_Board_countKeys : List Cond := k_Board_countKeys :: tblG
set_option maxRecDepth 100000 in
theorem mk_Board_countKeys : k_Board_countKeys ∈ tblG := mem_G (i := 518) rfl (by decide +kernel)
abbrev b_LW_add : ByteArray := method_14_code
abbrev y_LW_add : MethodName := ⟨R_LW, "add", "(LMasterKeys;I[J)I"⟩
abbrev k_LW_add : Cond := .codeWith y_LW_add b_LW_add 4 (some .int) [(0, 9, 12, 22), (0, 9, 15, 13)]
abbrev w_LW_add : List Cond := k_LW_add :: tblG
set_option maxRecDepth 100000 in
theorem mk_LW_add : k_LW_add ∈ tblG := mem_G (i := 522) rfl (by decide +kernel)
abbrev b_MK_add : ByteArray := prog_1_method_15_code
abbrev y_MK_add : MethodName := ⟨R_MK, "add", "(I)I"⟩
abbrev k_MK_add : Cond := .code y_MK_add b_MK_add 2 (some .int)
abbrev w_MK_add : List Cond := k_MK_add :: tblG
set_option maxRecDepth 100000 in
theorem mk_MK_add : k_MK_add ∈ tblG := mem_G (i := 526) rfl (by decide +kernel)
abbrev b_Board_allDoors : ByteArray := prog_2_method_3_code
abbrev y_Board_allDoors : MethodName := ⟨R_Board, "allDoors", "()I"⟩
abbrev k_Board_allDoors : Cond := .code y_Board_allDoors b_Board_allDoors 1 (some .int)
abbrev w_Board_allDoors : List Cond := k_Board_allDoors :: tblG
set_option maxRecDepth 100000 in
theorem mk_Board_allDoors : k_Board_allDoors ∈ tblG := mem_G (i := 530) rfl (by decide +kernel)
abbrev b_Rows_cutLeast : ByteArray := prog_4_method_3_code
abbrev y_Rows_cutLeast : MethodName := ⟨R_Rows, "cutLeast", "(I)Z"⟩
abbrev k_Rows_cutLeast : Cond := .code y_Rows_cutLeast b_Rows_cutLeast 9 (some .boolean)
abbrev w_Rows_cutLeast : List Cond := k_Rows_cutLeast :: tblG
set_option maxRecDepth 100000 in
theorem mk_Rows_cutLeast : k_Rows_cutLeast ∈ tblG := mem_G (i := 535) rfl (by decide +kernel)
abbrev b_Rows_leastDepth : ByteArray := prog_4_method_4_code
abbrev y_Rows_leastDepth : MethodName := ⟨R_Rows, "leastDepth", "(IIIJI)I"⟩
abbrev k_Rows_leastDepth : Cond := .code y_Rows_leastDepth b_Rows_leastDepth 10 (some .int)
abbrev w_Rows_leastDepth : List Cond := k_Rows_leastDepth :: tblG
set_option maxRecDepth 100000 in
theorem mk_Rows_leastDepth : k_Rows_leastDepth ∈ tblG := mem_G (i := 540) rfl (by decide +kernel)
abbrev b_Board_enter : ByteArray := prog_2_method_10_code
abbrev y_Board_enter : MethodName := ⟨R_Board, "enter", "(I)V"⟩
abbrev k_Board_enter : Cond := .code y_Board_enter b_Board_enter 4 none
abbrev w_Board_enter : List Cond := k_Board_enter :: tblG
set_option maxRecDepth 100000 in
theorem mk_Board_enter : k_Board_enter ∈ tblG := mem_G (i := 545) rfl (by decide +kernel)
abbrev b_LW_heirs : ByteArray := method_15_code
abbrev y_LW_heirs : MethodName := ⟨R_LW, "heirs", "(LMasterKeys;I[J)I"⟩
abbrev k_LW_heirs : Cond := .codeWith y_LW_heirs b_LW_heirs 4 (some .int) [(0, 9, 12, 22), (0, 9, 15, 13)]
abbrev w_LW_heirs : List Cond := k_LW_heirs :: tblG
set_option maxRecDepth 100000 in
theorem mk_LW_heirs : k_LW_heirs ∈ tblG := mem_G (i := 548) rfl (by decide +kernel)
abbrev b_MK_heirs : ByteArray := prog_1_method_16_code
abbrev y_MK_heirs : MethodName := ⟨R_MK, "heirs", "(I)I"⟩
abbrev k_MK_heirs : Cond := .code y_MK_heirs b_MK_heirs 5 (some .int)
abbrev w_MK_heirs : List Cond := k_MK_heirs :: tblG
set_option maxRecDepth 100000 in
theorem mk_MK_heirs : k_MK_heirs ∈ tblG := mem_G (i := 552) rfl (by decide +kernel)
abbrev b_RM_init : ByteArray := prog_7_method_1_code
abbrev y_RM_init : MethodName := ⟨R_RM, "<init>", "(II)V"⟩
abbrev k_RM_init : Cond := .code y_RM_init b_RM_init 3 none
abbrev w_RM_init : List Cond := k_RM_init :: tblG
set_option maxRecDepth 100000 in
theorem mk_RM_init : k_RM_init ∈ tblG := mem_G (i := 557) rfl (by decide +kernel)
abbrev b_RM_thrown : ByteArray := prog_7_method_2_code
abbrev y_RM_thrown : MethodName := ⟨R_RM, "thrown", "()I"⟩
abbrev k_RM_thrown : Cond := .code y_RM_thrown b_RM_thrown 1 (some .int)
abbrev w_RM_thrown : List Cond := k_RM_thrown :: tblG
set_option maxRecDepth 100000 in
theorem mk_RM_thrown : k_RM_thrown ∈ tblG := mem_G (i := 603) rfl (by decide +kernel)
abbrev b_RM_key : ByteArray := prog_7_method_8_code
abbrev y_RM_key : MethodName := ⟨R_RM, "key", "()I"⟩
abbrev k_RM_key : Cond := .code y_RM_key b_RM_key 2 (some .int)
abbrev w_RM_key : List Cond := k_RM_key :: tblG
set_option maxRecDepth 100000 in
theorem mk_RM_key : k_RM_key ∈ tblG := mem_G (i := 607) rfl (by decide +kernel)
abbrev b_RM_door : ByteArray := prog_7_method_9_code
abbrev y_RM_door : MethodName := ⟨R_RM, "door", "()I"⟩
abbrev k_RM_door : Cond := .code y_RM_door b_RM_door 1 (some .int)
abbrev w_RM_door : List Cond := k_RM_door :: tblG
set_option maxRecDepth 100000 in
theorem mk_RM_door : k_RM_door ∈ tblG := mem_G (i := 611) rfl (by decide +kernel)
abbrev b_RM_must : ByteArray := prog_7_method_10_code
abbrev y_RM_must : MethodName := ⟨R_RM, "must", "(IIZ)Z"⟩
abbrev k_RM_must : Cond := .code y_RM_must b_RM_must 5 (some .boolean)
abbrev w_RM_must : List Cond := k_RM_must :: tblG
set_option maxRecDepth 100000 in
theorem mk_RM_must : k_RM_must ∈ tblG := mem_G (i := 615) rfl (by decide +kernel)
abbrev b_RM_noKey : ByteArray := prog_7_method_4_code
abbrev y_RM_noKey : MethodName := ⟨R_RM, "noKey", "(I)Z"⟩
abbrev k_RM_noKey : Cond := .code y_RM_noKey b_RM_noKey 2 (some .boolean)
abbrev w_RM_noKey : List Cond := k_RM_noKey :: tblG
set_option maxRecDepth 100000 in
theorem mk_RM_noKey : k_RM_noKey ∈ tblG := mem_G (i := 619) rfl (by decide +kernel)
abbrev b_RM_noDoor : ByteArray := prog_7_method_5_code
abbrev y_RM_noDoor : MethodName := ⟨R_RM, "noDoor", "(I)Z"⟩
abbrev k_RM_noDoor : Cond := .code y_RM_noDoor b_RM_noDoor 2 (some .boolean)
abbrev w_RM_noDoor : List Cond := k_RM_noDoor :: tblG
set_option maxRecDepth 100000 in
theorem mk_RM_noDoor : k_RM_noDoor ∈ tblG := mem_G (i := 623) rfl (by decide +kernel)
abbrev b_RM_step : ByteArray := prog_7_method_11_code
abbrev y_RM_step : MethodName := ⟨R_RM, "step", "(I)I"⟩
abbrev k_RM_step : Cond := .code y_RM_step b_RM_step 3 (some .int)
abbrev w_RM_step : List Cond := k_RM_step :: tblG
set_option maxRecDepth 100000 in
theorem mk_RM_step : k_RM_step ∈ tblG := mem_G (i := 627) rfl (by decide +kernel)
abbrev b_RM_isIn : ByteArray := prog_7_method_3_code
abbrev y_RM_isIn : MethodName := ⟨R_RM, "isIn", "(III)Z"⟩
abbrev k_RM_isIn : Cond := .code y_RM_isIn b_RM_isIn 3 (some .boolean)
abbrev w_RM_isIn : List Cond := k_RM_isIn :: tblG
set_option maxRecDepth 100000 in
theorem mk_RM_isIn : k_RM_isIn ∈ tblG := mem_G (i := 630) rfl (by decide +kernel)
abbrev b_RM_bar : ByteArray := prog_7_method_12_code
abbrev y_RM_bar : MethodName := ⟨R_RM, "bar", "(IIZ)Z"⟩
abbrev k_RM_bar : Cond := .code y_RM_bar b_RM_bar 5 (some .boolean)
abbrev w_RM_bar : List Cond := k_RM_bar :: tblG
set_option maxRecDepth 100000 in
theorem mk_RM_bar : k_RM_bar ∈ tblG := mem_G (i := 634) rfl (by decide +kernel)
abbrev b_RM_noDepth : ByteArray := prog_7_method_7_code
abbrev y_RM_noDepth : MethodName := ⟨R_RM, "noDepth", "(I)Z"⟩
abbrev k_RM_noDepth : Cond := .code y_RM_noDepth b_RM_noDepth 2 (some .boolean)
abbrev w_RM_noDepth : List Cond := k_RM_noDepth :: tblG
set_option maxRecDepth 100000 in
theorem mk_RM_noDepth : k_RM_noDepth ∈ tblG := mem_G (i := 638) rfl (by decide +kernel)
abbrev b_RM_top : ByteArray := prog_7_method_13_code
abbrev y_RM_top : MethodName := ⟨R_RM, "top", "(I)I"⟩
abbrev k_RM_top : Cond := .code y_RM_top b_RM_top 3 (some .int)
abbrev w_RM_top : List Cond := k_RM_top :: tblG
set_option maxRecDepth 100000 in
theorem mk_RM_top : k_RM_top ∈ tblG := mem_G (i := 642) rfl (by decide +kernel)
abbrev b_RM_run : ByteArray := prog_7_method_19_code
abbrev y_RM_run : MethodName := ⟨R_RM, "run", "(I)I"⟩
abbrev k_RM_run : Cond := .code y_RM_run b_RM_run 4 (some .int)
abbrev w_RM_run : List Cond := k_RM_run :: tblG
set_option maxRecDepth 100000 in
theorem mk_RM_run : k_RM_run ∈ tblG := mem_G (i := 646) rfl (by decide +kernel)
abbrev b_RM_mayStand : ByteArray := prog_7_method_14_code
abbrev y_RM_mayStand : MethodName := ⟨R_RM, "mayStand", "(II)Z"⟩
abbrev k_RM_mayStand : Cond := .code y_RM_mayStand b_RM_mayStand 4 (some .boolean)
abbrev w_RM_mayStand : List Cond := k_RM_mayStand :: tblG
set_option maxRecDepth 100000 in
theorem mk_RM_mayStand : k_RM_mayStand ∈ tblG := mem_G (i := 651) rfl (by decide +kernel)
abbrev b_RM_areGood : ByteArray := prog_7_method_18_code
abbrev y_RM_areGood : MethodName := ⟨R_RM, "areGood", "(I)Z"⟩
abbrev k_RM_areGood : Cond := .code y_RM_areGood b_RM_areGood 6 (some .boolean)
abbrev w_RM_areGood : List Cond := k_RM_areGood :: tblG
set_option maxRecDepth 100000 in
theorem mk_RM_areGood : k_RM_areGood ∈ tblG := mem_G (i := 655) rfl (by decide +kernel)
abbrev b_RM_isAlike : ByteArray := prog_7_method_17_code
abbrev y_RM_isAlike : MethodName := ⟨R_RM, "isAlike", "(II)Z"⟩
abbrev k_RM_isAlike : Cond := .code y_RM_isAlike b_RM_isAlike 5 (some .boolean)
abbrev w_RM_isAlike : List Cond := k_RM_isAlike :: tblG
set_option maxRecDepth 100000 in
theorem mk_RM_isAlike : k_RM_isAlike ∈ tblG := mem_G (i := 659) rfl (by decide +kernel)
abbrev b_RM_isHeld : ByteArray := prog_7_method_15_code
abbrev y_RM_isHeld : MethodName := ⟨R_RM, "isHeld", "(IIII)Z"⟩
abbrev k_RM_isHeld : Cond := .code y_RM_isHeld b_RM_isHeld 7 (some .boolean)
abbrev w_RM_isHeld : List Cond := k_RM_isHeld :: tblG
set_option maxRecDepth 100000 in
theorem mk_RM_isHeld : k_RM_isHeld ∈ tblG := mem_G (i := 663) rfl (by decide +kernel)
abbrev b_RM_isFitting : ByteArray := prog_7_method_16_code
abbrev y_RM_isFitting : MethodName := ⟨R_RM, "isFitting", "(III)Z"⟩
abbrev k_RM_isFitting : Cond := .code y_RM_isFitting b_RM_isFitting 6 (some .boolean)
abbrev w_RM_isFitting : List Cond := k_RM_isFitting :: tblG
set_option maxRecDepth 100000 in
theorem mk_RM_isFitting : k_RM_isFitting ∈ tblG := mem_G (i := 667) rfl (by decide +kernel)
abbrev b_RM_tries : ByteArray := prog_7_method_20_code
abbrev y_RM_tries : MethodName := ⟨R_RM, "tries", "()I"⟩
abbrev k_RM_tries : Cond := .code y_RM_tries b_RM_tries 1 (some .int)
abbrev w_RM_tries : List Cond := k_RM_tries :: tblG
set_option maxRecDepth 100000 in
theorem mk_RM_tries : k_RM_tries ∈ tblG := mem_G (i := 671) rfl (by decide +kernel)
abbrev b_RM_cut : ByteArray := prog_7_method_21_code
abbrev y_RM_cut : MethodName := ⟨R_RM, "cut", "(II)I"⟩
abbrev k_RM_cut : Cond := .code y_RM_cut b_RM_cut 3 (some .int)
abbrev w_RM_cut : List Cond := k_RM_cut :: tblG
set_option maxRecDepth 100000 in
theorem mk_RM_cut : k_RM_cut ∈ tblG := mem_G (i := 675) rfl (by decide +kernel)
abbrev b_RM_noPin : ByteArray := prog_7_method_6_code
abbrev y_RM_noPin : MethodName := ⟨R_RM, "noPin", "(I)Z"⟩
abbrev k_RM_noPin : Cond := .code y_RM_noPin b_RM_noPin 2 (some .boolean)
abbrev w_RM_noPin : List Cond := k_RM_noPin :: tblG
set_option maxRecDepth 100000 in
theorem mk_RM_noPin : k_RM_noPin ∈ tblG := mem_G (i := 679) rfl (by decide +kernel)
abbrev b_RM_holds : ByteArray := prog_7_method_22_code
abbrev y_RM_holds : MethodName := ⟨R_RM, "holds", "(III)Z"⟩
abbrev k_RM_holds : Cond := .code y_RM_holds b_RM_holds 4 (some .boolean)
abbrev w_RM_holds : List Cond := k_RM_holds :: tblG
set_option maxRecDepth 100000 in
theorem mk_RM_holds : k_RM_holds ∈ tblG := mem_G (i := 683) rfl (by decide +kernel)
abbrev b_RM_fits : ByteArray := prog_7_method_23_code
abbrev y_RM_fits : MethodName := ⟨R_RM, "fits", "(II)Z"⟩
abbrev k_RM_fits : Cond := .code y_RM_fits b_RM_fits 3 (some .boolean)
abbrev w_RM_fits : List Cond := k_RM_fits :: tblG
set_option maxRecDepth 100000 in
theorem mk_RM_fits : k_RM_fits ∈ tblG := mem_G (i := 687) rfl (by decide +kernel)
abbrev b_RM_wrong : ByteArray := prog_7_method_24_code
abbrev y_RM_wrong : MethodName := ⟨R_RM, "wrong", "()I"⟩
abbrev k_RM_wrong : Cond := .code y_RM_wrong b_RM_wrong 4 (some .int)
abbrev w_RM_wrong : List Cond := k_RM_wrong :: tblG
set_option maxRecDepth 100000 in
theorem mk_RM_wrong : k_RM_wrong ∈ tblG := mem_G (i := 691) rfl (by decide +kernel)
abbrev b_RM_left : ByteArray := prog_7_method_28_code
abbrev y_RM_left : MethodName := ⟨R_RM, "left", "()I"⟩
abbrev k_RM_left : Cond := .code y_RM_left b_RM_left 3 (some .int)
abbrev w_RM_left : List Cond := k_RM_left :: tblG
set_option maxRecDepth 100000 in
theorem mk_RM_left : k_RM_left ∈ tblG := mem_G (i := 695) rfl (by decide +kernel)
abbrev b_RM_rows : ByteArray := prog_7_method_27_code
abbrev y_RM_rows : MethodName := ⟨R_RM, "rows", "()I"⟩
abbrev k_RM_rows : Cond := .code y_RM_rows b_RM_rows 3 (some .int)
abbrev w_RM_rows : List Cond := k_RM_rows :: tblG
set_option maxRecDepth 100000 in
theorem mk_RM_rows : k_RM_rows ∈ tblG := mem_G (i := 699) rfl (by decide +kernel)
abbrev b_RM_isFree : ByteArray := prog_7_method_25_code
abbrev y_RM_isFree : MethodName := ⟨R_RM, "isFree", "(I)Z"⟩
abbrev k_RM_isFree : Cond := .code y_RM_isFree b_RM_isFree 7 (some .boolean)
abbrev w_RM_isFree : List Cond := k_RM_isFree :: tblG
set_option maxRecDepth 100000 in
theorem mk_RM_isFree : k_RM_isFree ∈ tblG := mem_G (i := 703) rfl (by decide +kernel)
abbrev b_RM_doorsOfRow : ByteArray := prog_7_method_26_code
abbrev y_RM_doorsOfRow : MethodName := ⟨R_RM, "doorsOfRow", "()I"⟩
abbrev k_RM_doorsOfRow : Cond := .code y_RM_doorsOfRow b_RM_doorsOfRow 5 (some .int)
abbrev w_RM_doorsOfRow : List Cond := k_RM_doorsOfRow :: tblG
set_option maxRecDepth 100000 in
theorem mk_RM_doorsOfRow : k_RM_doorsOfRow ∈ tblG := mem_G (i := 707) rfl (by decide +kernel)
abbrev b_RM_add : ByteArray := prog_7_method_29_code
abbrev y_RM_add : MethodName := ⟨R_RM, "add", "(I)I"⟩
abbrev k_RM_add : Cond := .code y_RM_add b_RM_add 5 (some .int)
abbrev w_RM_add : List Cond := k_RM_add :: tblG
set_option maxRecDepth 100000 in
theorem mk_RM_add : k_RM_add ∈ tblG := mem_G (i := 711) rfl (by decide +kernel)
abbrev b_RM_heirs : ByteArray := prog_7_method_30_code
abbrev y_RM_heirs : MethodName := ⟨R_RM, "heirs", "(I)I"⟩
abbrev k_RM_heirs : Cond := .code y_RM_heirs b_RM_heirs 6 (some .int)
abbrev w_RM_heirs : List Cond := k_RM_heirs :: tblG
set_option maxRecDepth 100000 in
theorem mk_RM_heirs : k_RM_heirs ∈ tblG := mem_G (i := 715) rfl (by decide +kernel)
theorem mM_LW_64 : Cond.methodLink R_LW 64 y_MK_init ∈ tblG := mem_G (i := 48) (by decide +kernel) (by decide +kernel)
theorem mM_MK_3 : Cond.methodLink R_MK 3 objectInit ∈ tblG := mem_G (i := 51) (by decide +kernel) (by decide +kernel)
theorem mM_MK_11 : Cond.methodLink R_MK 11 ⟨"java/lang/Math", "min", "(II)I"⟩ ∈ tblG := mem_G (i := 56) (by decide +kernel) (by decide +kernel)
theorem mM_MK_17 : Cond.methodLink R_MK 17 ⟨"java/lang/Math", "max", "(II)I"⟩ ∈ tblG := mem_G (i := 59) (by decide +kernel) (by decide +kernel)
theorem mM_MK_20 : Cond.methodLink R_MK 20 y_Law_init ∈ tblG := mem_G (i := 62) (by decide +kernel) (by decide +kernel)
theorem mM_Law_3 : Cond.methodLink R_Law 3 objectInit ∈ tblG := mem_G (i := 65) (by decide +kernel) (by decide +kernel)
theorem mM_MK_29 : Cond.methodLink R_MK 29 y_Board_init ∈ tblG := mem_G (i := 94) (by decide +kernel) (by decide +kernel)
theorem mM_Board_3 : Cond.methodLink R_Board 3 objectInit ∈ tblG := mem_G (i := 97) (by decide +kernel) (by decide +kernel)
theorem mM_MK_38 : Cond.methodLink R_MK 38 y_Search_init ∈ tblG := mem_G (i := 136) (by decide +kernel) (by decide +kernel)
theorem mM_Search_3 : Cond.methodLink R_Search 3 objectInit ∈ tblG := mem_G (i := 139) (by decide +kernel) (by decide +kernel)
theorem mM_MK_47 : Cond.methodLink R_MK 47 y_Rows_init ∈ tblG := mem_G (i := 159) (by decide +kernel) (by decide +kernel)
theorem mM_Rows_3 : Cond.methodLink R_Rows 3 objectInit ∈ tblG := mem_G (i := 162) (by decide +kernel) (by decide +kernel)
theorem mM_LW_97 : Cond.methodLink R_LW 97 y_MK_tries ∈ tblG := mem_G (i := 190) (by decide +kernel) (by decide +kernel)
theorem mM_LW_112 : Cond.methodLink R_LW 112 y_MK_wrong ∈ tblG := mem_G (i := 194) (by decide +kernel) (by decide +kernel)
theorem mM_MK_131 : Cond.methodLink R_MK 131 y_Board_doorsOf ∈ tblG := mem_G (i := 198) (by decide +kernel) (by decide +kernel)
theorem mM_Board_41 : Cond.methodLink R_Board 41 y_Board_doorsFitted ∈ tblG := mem_G (i := 202) (by decide +kernel) (by decide +kernel)
theorem mM_Board_48 : Cond.methodLink R_Board 48 y_Board_isWithin ∈ tblG := mem_G (i := 206) (by decide +kernel) (by decide +kernel)
theorem mM_MK_138 : Cond.methodLink R_MK 138 y_JI_bitCount ∈ tblG := mem_G (i := 210) (by decide +kernel) (by decide +kernel)
theorem mM_LW_58 : Cond.methodLink R_LW 58 y_LW_cell ∈ tblG := mem_G (i := 216) (by decide +kernel) (by decide +kernel)
theorem mM_LW_70 : Cond.methodLink R_LW 70 y_LW_key ∈ tblG := mem_G (i := 219) (by decide +kernel) (by decide +kernel)
theorem mM_LW_7 : Cond.methodLink R_LW 7 y_MK_key ∈ tblG := mem_G (i := 223) (by decide +kernel) (by decide +kernel)
theorem mM_LW_77 : Cond.methodLink R_LW 77 y_LW_door ∈ tblG := mem_G (i := 294) (by decide +kernel) (by decide +kernel)
theorem mM_LW_15 : Cond.methodLink R_LW 15 y_MK_door ∈ tblG := mem_G (i := 297) (by decide +kernel) (by decide +kernel)
theorem mM_LW_80 : Cond.methodLink R_LW 80 y_LW_must ∈ tblG := mem_G (i := 302) (by decide +kernel) (by decide +kernel)
theorem mM_LW_18 : Cond.methodLink R_LW 18 y_MK_must ∈ tblG := mem_G (i := 306) (by decide +kernel) (by decide +kernel)
theorem mM_MK_72 : Cond.methodLink R_MK 72 y_MK_needKey ∈ tblG := mem_G (i := 310) (by decide +kernel) (by decide +kernel)
theorem mM_MK_76 : Cond.methodLink R_MK 76 y_MK_needDoor ∈ tblG := mem_G (i := 330) (by decide +kernel) (by decide +kernel)
theorem mM_MK_79 : Cond.methodLink R_MK 79 y_Board_mustOpen ∈ tblG := mem_G (i := 335) (by decide +kernel) (by decide +kernel)
theorem mM_MK_83 : Cond.methodLink R_MK 83 y_Board_tell ∈ tblG := mem_G (i := 339) (by decide +kernel) (by decide +kernel)
theorem mM_LW_84 : Cond.methodLink R_LW 84 y_LW_step ∈ tblG := mem_G (i := 343) (by decide +kernel) (by decide +kernel)
theorem mM_LW_24 : Cond.methodLink R_LW 24 y_MK_step ∈ tblG := mem_G (i := 346) (by decide +kernel) (by decide +kernel)
theorem mM_LW_88 : Cond.methodLink R_LW 88 y_LW_bar ∈ tblG := mem_G (i := 351) (by decide +kernel) (by decide +kernel)
theorem mM_LW_28 : Cond.methodLink R_LW 28 y_MK_bar ∈ tblG := mem_G (i := 354) (by decide +kernel) (by decide +kernel)
theorem mM_MK_95 : Cond.methodLink R_MK 95 y_MK_needDepth ∈ tblG := mem_G (i := 358) (by decide +kernel) (by decide +kernel)
theorem mM_MK_98 : Cond.methodLink R_MK 98 y_Law_isBarred ∈ tblG := mem_G (i := 363) (by decide +kernel) (by decide +kernel)
theorem mM_Law_28 : Cond.methodLink R_Law 28 y_Law_pairBit ∈ tblG := mem_G (i := 367) (by decide +kernel) (by decide +kernel)
theorem mM_MK_101 : Cond.methodLink R_MK 101 y_Law_setBarred ∈ tblG := mem_G (i := 370) (by decide +kernel) (by decide +kernel)
theorem mM_LW_91 : Cond.methodLink R_LW 91 y_LW_top ∈ tblG := mem_G (i := 375) (by decide +kernel) (by decide +kernel)
theorem mM_LW_31 : Cond.methodLink R_LW 31 y_MK_top ∈ tblG := mem_G (i := 378) (by decide +kernel) (by decide +kernel)
theorem mM_LW_94 : Cond.methodLink R_LW 94 y_LW_run ∈ tblG := mem_G (i := 383) (by decide +kernel) (by decide +kernel)
theorem mM_LW_34 : Cond.methodLink R_LW 34 y_MK_run ∈ tblG := mem_G (i := 386) (by decide +kernel) (by decide +kernel)
theorem mM_MK_114 : Cond.methodLink R_MK 114 y_Search_look ∈ tblG := mem_G (i := 393) (by decide +kernel) (by decide +kernel)
theorem mM_Search_35 : Cond.methodLink R_Search 35 y_Search_stands ∈ tblG := mem_G (i := 397) (by decide +kernel) (by decide +kernel)
theorem mM_Search_45 : Cond.methodLink R_Search 45 y_Law_mayFollow ∈ tblG := mem_G (i := 401) (by decide +kernel) (by decide +kernel)
theorem mM_Law_34 : Cond.methodLink R_Law 34 ⟨"java/lang/Math", "abs", "(I)I"⟩ ∈ tblG := mem_G (i := 405) (by decide +kernel) (by decide +kernel)
theorem mM_Law_40 : Cond.methodLink R_Law 40 y_Law_isBarred ∈ tblG := mem_G (i := 408) (by decide +kernel) (by decide +kernel)
theorem mM_Search_54 : Cond.methodLink R_Search 54 y_Board_accepts ∈ tblG := mem_G (i := 409) (by decide +kernel) (by decide +kernel)
theorem mM_Board_56 : Cond.methodLink R_Board 56 y_Board_rowFromCuts ∈ tblG := mem_G (i := 413) (by decide +kernel) (by decide +kernel)
theorem mM_Board_37 : Cond.methodLink R_Board 37 y_Board_bit ∈ tblG := mem_G (i := 417) (by decide +kernel) (by decide +kernel)
theorem mM_Board_60 : Cond.methodLink R_Board 60 y_Board_isTaken ∈ tblG := mem_G (i := 420) (by decide +kernel) (by decide +kernel)
theorem mM_Board_64 : Cond.methodLink R_Board 64 y_Board_doorAccepts ∈ tblG := mem_G (i := 424) (by decide +kernel) (by decide +kernel)
theorem mM_Board_68 : Cond.methodLink R_Board 68 y_Board_mustOpen ∈ tblG := mem_G (i := 428) (by decide +kernel) (by decide +kernel)
theorem mM_Board_71 : Cond.methodLink R_Board 71 y_Board_isAboveTop ∈ tblG := mem_G (i := 429) (by decide +kernel) (by decide +kernel)
theorem mM_Board_86 : Cond.methodLink R_Board 86 y_JL_bitCount ∈ tblG := mem_G (i := 434) (by decide +kernel) (by decide +kernel)
theorem mM_Board_75 : Cond.methodLink R_Board 75 y_Board_strangerFits ∈ tblG := mem_G (i := 440) (by decide +kernel) (by decide +kernel)
theorem mM_Search_39 : Cond.methodLink R_Search 39 y_Search_goBack ∈ tblG := mem_G (i := 444) (by decide +kernel) (by decide +kernel)
theorem mM_Search_42 : Cond.methodLink R_Search 42 y_Search_goOn ∈ tblG := mem_G (i := 448) (by decide +kernel) (by decide +kernel)
theorem mM_LW_101 : Cond.methodLink R_LW 101 y_LW_cut ∈ tblG := mem_G (i := 452) (by decide +kernel) (by decide +kernel)
theorem mM_LW_37 : Cond.methodLink R_LW 37 y_MK_cut ∈ tblG := mem_G (i := 455) (by decide +kernel) (by decide +kernel)
theorem mM_MK_121 : Cond.methodLink R_MK 121 y_MK_needPin ∈ tblG := mem_G (i := 459) (by decide +kernel) (by decide +kernel)
theorem mM_LW_105 : Cond.methodLink R_LW 105 y_LW_holds ∈ tblG := mem_G (i := 464) (by decide +kernel) (by decide +kernel)
theorem mM_LW_41 : Cond.methodLink R_LW 41 y_MK_holds ∈ tblG := mem_G (i := 467) (by decide +kernel) (by decide +kernel)
theorem mM_MK_128 : Cond.methodLink R_MK 128 y_Board_doorsHolding ∈ tblG := mem_G (i := 471) (by decide +kernel) (by decide +kernel)
theorem mM_LW_109 : Cond.methodLink R_LW 109 y_LW_fits ∈ tblG := mem_G (i := 475) (by decide +kernel) (by decide +kernel)
theorem mM_LW_45 : Cond.methodLink R_LW 45 y_MK_fits ∈ tblG := mem_G (i := 478) (by decide +kernel) (by decide +kernel)
theorem mM_LW_116 : Cond.methodLink R_LW 116 y_LW_left ∈ tblG := mem_G (i := 482) (by decide +kernel) (by decide +kernel)
theorem mM_LW_49 : Cond.methodLink R_LW 49 y_MK_left ∈ tblG := mem_G (i := 485) (by decide +kernel) (by decide +kernel)
theorem mM_MK_143 : Cond.methodLink R_MK 143 y_MK_needPlan ∈ tblG := mem_G (i := 489) (by decide +kernel) (by decide +kernel)
theorem mM_MK_146 : Cond.methodLink R_MK 146 y_Rows_countFree ∈ tblG := mem_G (i := 494) (by decide +kernel) (by decide +kernel)
theorem mM_Rows_24 : Cond.methodLink R_Rows 24 y_Rows_countWays ∈ tblG := mem_G (i := 498) (by decide +kernel) (by decide +kernel)
theorem mM_Rows_40 : Cond.methodLink R_Rows 40 y_Rows_state ∈ tblG := mem_G (i := 502) (by decide +kernel) (by decide +kernel)
theorem mM_Rows_72 : Cond.methodLink R_Rows 72 y_Rows_countWaysBehind ∈ tblG := mem_G (i := 505) (by decide +kernel) (by decide +kernel)
theorem mM_Rows_34 : Cond.methodLink R_Rows 34 y_Board_doorsHolding ∈ tblG := mem_G (i := 509) (by decide +kernel) (by decide +kernel)
theorem mM_Rows_68 : Cond.methodLink R_Rows 68 y_Law_mayFollow ∈ tblG := mem_G (i := 510) (by decide +kernel) (by decide +kernel)
theorem mM_Rows_75 : Cond.methodLink R_Rows 75 y_Rows_addWays ∈ tblG := mem_G (i := 511) (by decide +kernel) (by decide +kernel)
theorem mM_Rows_43 : Cond.methodLink R_Rows 43 y_Board_countKeys ∈ tblG := mem_G (i := 515) (by decide +kernel) (by decide +kernel)
theorem mM_Board_52 : Cond.methodLink R_Board 52 y_Board_doorsOf ∈ tblG := mem_G (i := 519) (by decide +kernel) (by decide +kernel)
theorem mM_LW_119 : Cond.methodLink R_LW 119 y_LW_add ∈ tblG := mem_G (i := 520) (by decide +kernel) (by decide +kernel)
theorem mM_LW_52 : Cond.methodLink R_LW 52 y_MK_add ∈ tblG := mem_G (i := 523) (by decide +kernel) (by decide +kernel)
theorem mM_MK_149 : Cond.methodLink R_MK 149 y_Board_allDoors ∈ tblG := mem_G (i := 527) (by decide +kernel) (by decide +kernel)
theorem mM_MK_155 : Cond.methodLink R_MK 155 y_Rows_cutLeast ∈ tblG := mem_G (i := 532) (by decide +kernel) (by decide +kernel)
theorem mM_Rows_53 : Cond.methodLink R_Rows 53 y_Board_allDoors ∈ tblG := mem_G (i := 536) (by decide +kernel) (by decide +kernel)
theorem mM_Rows_60 : Cond.methodLink R_Rows 60 y_Rows_leastDepth ∈ tblG := mem_G (i := 537) (by decide +kernel) (by decide +kernel)
theorem mM_Rows_64 : Cond.methodLink R_Rows 64 y_Board_bit ∈ tblG := mem_G (i := 541) (by decide +kernel) (by decide +kernel)
theorem mM_MK_159 : Cond.methodLink R_MK 159 y_Board_enter ∈ tblG := mem_G (i := 542) (by decide +kernel) (by decide +kernel)
theorem mM_LW_122 : Cond.methodLink R_LW 122 y_LW_heirs ∈ tblG := mem_G (i := 546) (by decide +kernel) (by decide +kernel)
theorem mM_LW_55 : Cond.methodLink R_LW 55 y_MK_heirs ∈ tblG := mem_G (i := 549) (by decide +kernel) (by decide +kernel)
theorem mM_LW_69 : Cond.methodLink R_LW 69 y_RM_init ∈ tblG := mem_G (i := 555) (by decide +kernel) (by decide +kernel)
theorem mM_RM_1 : Cond.methodLink R_RM 1 objectInit ∈ tblG := mem_G (i := 558) (by decide +kernel) (by decide +kernel)
theorem mM_LW_74 : Cond.methodLink R_LW 74 y_RM_thrown ∈ tblG := mem_G (i := 600) (by decide +kernel) (by decide +kernel)
theorem mM_LW_73 : Cond.methodLink R_LW 73 y_RM_key ∈ tblG := mem_G (i := 604) (by decide +kernel) (by decide +kernel)
theorem mM_LW_79 : Cond.methodLink R_LW 79 y_RM_door ∈ tblG := mem_G (i := 608) (by decide +kernel) (by decide +kernel)
theorem mM_LW_83 : Cond.methodLink R_LW 83 y_RM_must ∈ tblG := mem_G (i := 612) (by decide +kernel) (by decide +kernel)
theorem mM_RM_49 : Cond.methodLink R_RM 49 y_RM_noKey ∈ tblG := mem_G (i := 616) (by decide +kernel) (by decide +kernel)
theorem mM_RM_53 : Cond.methodLink R_RM 53 y_RM_noDoor ∈ tblG := mem_G (i := 620) (by decide +kernel) (by decide +kernel)
theorem mM_LW_87 : Cond.methodLink R_LW 87 y_RM_step ∈ tblG := mem_G (i := 624) (by decide +kernel) (by decide +kernel)
theorem mM_RM_56 : Cond.methodLink R_RM 56 y_RM_isIn ∈ tblG := mem_G (i := 628) (by decide +kernel) (by decide +kernel)
theorem mM_LW_90 : Cond.methodLink R_LW 90 y_RM_bar ∈ tblG := mem_G (i := 631) (by decide +kernel) (by decide +kernel)
theorem mM_RM_60 : Cond.methodLink R_RM 60 y_RM_noDepth ∈ tblG := mem_G (i := 635) (by decide +kernel) (by decide +kernel)
theorem mM_LW_93 : Cond.methodLink R_LW 93 y_RM_top ∈ tblG := mem_G (i := 639) (by decide +kernel) (by decide +kernel)
theorem mM_LW_96 : Cond.methodLink R_LW 96 y_RM_run ∈ tblG := mem_G (i := 643) (by decide +kernel) (by decide +kernel)
theorem mM_RM_78 : Cond.methodLink R_RM 78 y_RM_mayStand ∈ tblG := mem_G (i := 648) (by decide +kernel) (by decide +kernel)
theorem mM_RM_81 : Cond.methodLink R_RM 81 y_RM_areGood ∈ tblG := mem_G (i := 652) (by decide +kernel) (by decide +kernel)
theorem mM_RM_67 : Cond.methodLink R_RM 67 y_RM_isAlike ∈ tblG := mem_G (i := 656) (by decide +kernel) (by decide +kernel)
theorem mM_RM_63 : Cond.methodLink R_RM 63 y_RM_isHeld ∈ tblG := mem_G (i := 660) (by decide +kernel) (by decide +kernel)
theorem mM_RM_71 : Cond.methodLink R_RM 71 y_RM_isFitting ∈ tblG := mem_G (i := 664) (by decide +kernel) (by decide +kernel)
theorem mM_LW_100 : Cond.methodLink R_LW 100 y_RM_tries ∈ tblG := mem_G (i := 668) (by decide +kernel) (by decide +kernel)
theorem mM_LW_104 : Cond.methodLink R_LW 104 y_RM_cut ∈ tblG := mem_G (i := 672) (by decide +kernel) (by decide +kernel)
theorem mM_RM_84 : Cond.methodLink R_RM 84 y_RM_noPin ∈ tblG := mem_G (i := 676) (by decide +kernel) (by decide +kernel)
theorem mM_LW_108 : Cond.methodLink R_LW 108 y_RM_holds ∈ tblG := mem_G (i := 680) (by decide +kernel) (by decide +kernel)
theorem mM_LW_111 : Cond.methodLink R_LW 111 y_RM_fits ∈ tblG := mem_G (i := 684) (by decide +kernel) (by decide +kernel)
theorem mM_LW_115 : Cond.methodLink R_LW 115 y_RM_wrong ∈ tblG := mem_G (i := 688) (by decide +kernel) (by decide +kernel)
theorem mM_LW_118 : Cond.methodLink R_LW 118 y_RM_left ∈ tblG := mem_G (i := 692) (by decide +kernel) (by decide +kernel)
theorem mM_RM_87 : Cond.methodLink R_RM 87 y_RM_rows ∈ tblG := mem_G (i := 696) (by decide +kernel) (by decide +kernel)
theorem mM_RM_91 : Cond.methodLink R_RM 91 y_RM_isFree ∈ tblG := mem_G (i := 700) (by decide +kernel) (by decide +kernel)
theorem mM_RM_94 : Cond.methodLink R_RM 94 y_RM_doorsOfRow ∈ tblG := mem_G (i := 704) (by decide +kernel) (by decide +kernel)
theorem mM_LW_121 : Cond.methodLink R_LW 121 y_RM_add ∈ tblG := mem_G (i := 708) (by decide +kernel) (by decide +kernel)
theorem mM_LW_124 : Cond.methodLink R_LW 124 y_RM_heirs ∈ tblG := mem_G (i := 712) (by decide +kernel) (by decide +kernel)
theorem mI_MK_init : Cond.instanceMethod y_MK_init ∈ tblG := mem_G (i := 49) (by decide +kernel) (by decide +kernel)
theorem mI_Obj_init : Cond.instanceMethod objectInit ∈ tblG := mem_G (i := 52) (by decide +kernel) (by decide +kernel)
theorem mI_Law_init : Cond.instanceMethod y_Law_init ∈ tblG := mem_G (i := 63) (by decide +kernel) (by decide +kernel)
theorem mI_Board_init : Cond.instanceMethod y_Board_init ∈ tblG := mem_G (i := 95) (by decide +kernel) (by decide +kernel)
theorem mI_Search_init : Cond.instanceMethod y_Search_init ∈ tblG := mem_G (i := 137) (by decide +kernel) (by decide +kernel)
theorem mI_Rows_init : Cond.instanceMethod y_Rows_init ∈ tblG := mem_G (i := 160) (by decide +kernel) (by decide +kernel)
theorem mI_MK_tries : Cond.instanceMethod y_MK_tries ∈ tblG := mem_G (i := 191) (by decide +kernel) (by decide +kernel)
theorem mI_MK_wrong : Cond.instanceMethod y_MK_wrong ∈ tblG := mem_G (i := 195) (by decide +kernel) (by decide +kernel)
theorem mI_Board_doorsOf : Cond.instanceMethod y_Board_doorsOf ∈ tblG := mem_G (i := 199) (by decide +kernel) (by decide +kernel)
theorem mI_Board_doorsFitted : Cond.instanceMethod y_Board_doorsFitted ∈ tblG := mem_G (i := 204) (by decide +kernel) (by decide +kernel)
theorem mI_MK_key : Cond.instanceMethod y_MK_key ∈ tblG := mem_G (i := 224) (by decide +kernel) (by decide +kernel)
theorem mI_MK_door : Cond.instanceMethod y_MK_door ∈ tblG := mem_G (i := 298) (by decide +kernel) (by decide +kernel)
theorem mI_MK_must : Cond.instanceMethod y_MK_must ∈ tblG := mem_G (i := 307) (by decide +kernel) (by decide +kernel)
theorem mI_MK_needKey : Cond.instanceMethod y_MK_needKey ∈ tblG := mem_G (i := 312) (by decide +kernel) (by decide +kernel)
theorem mI_MK_needDoor : Cond.instanceMethod y_MK_needDoor ∈ tblG := mem_G (i := 332) (by decide +kernel) (by decide +kernel)
theorem mI_Board_mustOpen : Cond.instanceMethod y_Board_mustOpen ∈ tblG := mem_G (i := 336) (by decide +kernel) (by decide +kernel)
theorem mI_Board_tell : Cond.instanceMethod y_Board_tell ∈ tblG := mem_G (i := 340) (by decide +kernel) (by decide +kernel)
theorem mI_MK_step : Cond.instanceMethod y_MK_step ∈ tblG := mem_G (i := 347) (by decide +kernel) (by decide +kernel)
theorem mI_MK_bar : Cond.instanceMethod y_MK_bar ∈ tblG := mem_G (i := 355) (by decide +kernel) (by decide +kernel)
theorem mI_MK_needDepth : Cond.instanceMethod y_MK_needDepth ∈ tblG := mem_G (i := 360) (by decide +kernel) (by decide +kernel)
theorem mI_Law_isBarred : Cond.instanceMethod y_Law_isBarred ∈ tblG := mem_G (i := 364) (by decide +kernel) (by decide +kernel)
theorem mI_Law_setBarred : Cond.instanceMethod y_Law_setBarred ∈ tblG := mem_G (i := 371) (by decide +kernel) (by decide +kernel)
theorem mI_MK_top : Cond.instanceMethod y_MK_top ∈ tblG := mem_G (i := 379) (by decide +kernel) (by decide +kernel)
theorem mI_MK_run : Cond.instanceMethod y_MK_run ∈ tblG := mem_G (i := 387) (by decide +kernel) (by decide +kernel)
theorem mI_Search_look : Cond.instanceMethod y_Search_look ∈ tblG := mem_G (i := 394) (by decide +kernel) (by decide +kernel)
theorem mI_Search_stands : Cond.instanceMethod y_Search_stands ∈ tblG := mem_G (i := 399) (by decide +kernel) (by decide +kernel)
theorem mI_Law_mayFollow : Cond.instanceMethod y_Law_mayFollow ∈ tblG := mem_G (i := 402) (by decide +kernel) (by decide +kernel)
theorem mI_Board_accepts : Cond.instanceMethod y_Board_accepts ∈ tblG := mem_G (i := 410) (by decide +kernel) (by decide +kernel)
theorem mI_Board_rowFromCuts : Cond.instanceMethod y_Board_rowFromCuts ∈ tblG := mem_G (i := 415) (by decide +kernel) (by decide +kernel)
theorem mI_Board_isTaken : Cond.instanceMethod y_Board_isTaken ∈ tblG := mem_G (i := 422) (by decide +kernel) (by decide +kernel)
theorem mI_Board_doorAccepts : Cond.instanceMethod y_Board_doorAccepts ∈ tblG := mem_G (i := 426) (by decide +kernel) (by decide +kernel)
theorem mI_Board_isAboveTop : Cond.instanceMethod y_Board_isAboveTop ∈ tblG := mem_G (i := 431) (by decide +kernel) (by decide +kernel)
theorem mI_Board_strangerFits : Cond.instanceMethod y_Board_strangerFits ∈ tblG := mem_G (i := 442) (by decide +kernel) (by decide +kernel)
theorem mI_Search_goBack : Cond.instanceMethod y_Search_goBack ∈ tblG := mem_G (i := 446) (by decide +kernel) (by decide +kernel)
theorem mI_Search_goOn : Cond.instanceMethod y_Search_goOn ∈ tblG := mem_G (i := 450) (by decide +kernel) (by decide +kernel)
theorem mI_MK_cut : Cond.instanceMethod y_MK_cut ∈ tblG := mem_G (i := 456) (by decide +kernel) (by decide +kernel)
theorem mI_MK_needPin : Cond.instanceMethod y_MK_needPin ∈ tblG := mem_G (i := 461) (by decide +kernel) (by decide +kernel)
theorem mI_MK_holds : Cond.instanceMethod y_MK_holds ∈ tblG := mem_G (i := 468) (by decide +kernel) (by decide +kernel)
theorem mI_Board_doorsHolding : Cond.instanceMethod y_Board_doorsHolding ∈ tblG := mem_G (i := 472) (by decide +kernel) (by decide +kernel)
theorem mI_MK_fits : Cond.instanceMethod y_MK_fits ∈ tblG := mem_G (i := 479) (by decide +kernel) (by decide +kernel)
theorem mI_MK_left : Cond.instanceMethod y_MK_left ∈ tblG := mem_G (i := 486) (by decide +kernel) (by decide +kernel)
theorem mI_MK_needPlan : Cond.instanceMethod y_MK_needPlan ∈ tblG := mem_G (i := 491) (by decide +kernel) (by decide +kernel)
theorem mI_Rows_countFree : Cond.instanceMethod y_Rows_countFree ∈ tblG := mem_G (i := 495) (by decide +kernel) (by decide +kernel)
theorem mI_Rows_countWays : Cond.instanceMethod y_Rows_countWays ∈ tblG := mem_G (i := 500) (by decide +kernel) (by decide +kernel)
theorem mI_Rows_countWaysBehind : Cond.instanceMethod y_Rows_countWaysBehind ∈ tblG := mem_G (i := 507) (by decide +kernel) (by decide +kernel)
theorem mI_Rows_addWays : Cond.instanceMethod y_Rows_addWays ∈ tblG := mem_G (i := 513) (by decide +kernel) (by decide +kernel)
theorem mI_Board_countKeys : Cond.instanceMethod y_Board_countKeys ∈ tblG := mem_G (i := 516) (by decide +kernel) (by decide +kernel)
theorem mI_MK_add : Cond.instanceMethod y_MK_add ∈ tblG := mem_G (i := 524) (by decide +kernel) (by decide +kernel)
theorem mI_Board_allDoors : Cond.instanceMethod y_Board_allDoors ∈ tblG := mem_G (i := 528) (by decide +kernel) (by decide +kernel)
theorem mI_Rows_cutLeast : Cond.instanceMethod y_Rows_cutLeast ∈ tblG := mem_G (i := 533) (by decide +kernel) (by decide +kernel)
theorem mI_Rows_leastDepth : Cond.instanceMethod y_Rows_leastDepth ∈ tblG := mem_G (i := 539) (by decide +kernel) (by decide +kernel)
theorem mI_Board_enter : Cond.instanceMethod y_Board_enter ∈ tblG := mem_G (i := 543) (by decide +kernel) (by decide +kernel)
theorem mI_MK_heirs : Cond.instanceMethod y_MK_heirs ∈ tblG := mem_G (i := 550) (by decide +kernel) (by decide +kernel)
theorem mI_RM_init : Cond.instanceMethod y_RM_init ∈ tblG := mem_G (i := 556) (by decide +kernel) (by decide +kernel)
theorem mI_RM_thrown : Cond.instanceMethod y_RM_thrown ∈ tblG := mem_G (i := 601) (by decide +kernel) (by decide +kernel)
theorem mI_RM_key : Cond.instanceMethod y_RM_key ∈ tblG := mem_G (i := 605) (by decide +kernel) (by decide +kernel)
theorem mI_RM_door : Cond.instanceMethod y_RM_door ∈ tblG := mem_G (i := 609) (by decide +kernel) (by decide +kernel)
theorem mI_RM_must : Cond.instanceMethod y_RM_must ∈ tblG := mem_G (i := 613) (by decide +kernel) (by decide +kernel)
theorem mI_RM_noKey : Cond.instanceMethod y_RM_noKey ∈ tblG := mem_G (i := 618) (by decide +kernel) (by decide +kernel)
theorem mI_RM_noDoor : Cond.instanceMethod y_RM_noDoor ∈ tblG := mem_G (i := 622) (by decide +kernel) (by decide +kernel)
theorem mI_RM_step : Cond.instanceMethod y_RM_step ∈ tblG := mem_G (i := 625) (by decide +kernel) (by decide +kernel)
theorem mI_RM_bar : Cond.instanceMethod y_RM_bar ∈ tblG := mem_G (i := 632) (by decide +kernel) (by decide +kernel)
theorem mI_RM_noDepth : Cond.instanceMethod y_RM_noDepth ∈ tblG := mem_G (i := 637) (by decide +kernel) (by decide +kernel)
theorem mI_RM_top : Cond.instanceMethod y_RM_top ∈ tblG := mem_G (i := 640) (by decide +kernel) (by decide +kernel)
theorem mI_RM_run : Cond.instanceMethod y_RM_run ∈ tblG := mem_G (i := 644) (by decide +kernel) (by decide +kernel)
theorem mI_RM_mayStand : Cond.instanceMethod y_RM_mayStand ∈ tblG := mem_G (i := 650) (by decide +kernel) (by decide +kernel)
theorem mI_RM_areGood : Cond.instanceMethod y_RM_areGood ∈ tblG := mem_G (i := 654) (by decide +kernel) (by decide +kernel)
theorem mI_RM_isAlike : Cond.instanceMethod y_RM_isAlike ∈ tblG := mem_G (i := 658) (by decide +kernel) (by decide +kernel)
theorem mI_RM_isHeld : Cond.instanceMethod y_RM_isHeld ∈ tblG := mem_G (i := 662) (by decide +kernel) (by decide +kernel)
theorem mI_RM_isFitting : Cond.instanceMethod y_RM_isFitting ∈ tblG := mem_G (i := 666) (by decide +kernel) (by decide +kernel)
theorem mI_RM_tries : Cond.instanceMethod y_RM_tries ∈ tblG := mem_G (i := 669) (by decide +kernel) (by decide +kernel)
theorem mI_RM_cut : Cond.instanceMethod y_RM_cut ∈ tblG := mem_G (i := 673) (by decide +kernel) (by decide +kernel)
theorem mI_RM_noPin : Cond.instanceMethod y_RM_noPin ∈ tblG := mem_G (i := 678) (by decide +kernel) (by decide +kernel)
theorem mI_RM_holds : Cond.instanceMethod y_RM_holds ∈ tblG := mem_G (i := 681) (by decide +kernel) (by decide +kernel)
theorem mI_RM_fits : Cond.instanceMethod y_RM_fits ∈ tblG := mem_G (i := 685) (by decide +kernel) (by decide +kernel)
theorem mI_RM_wrong : Cond.instanceMethod y_RM_wrong ∈ tblG := mem_G (i := 689) (by decide +kernel) (by decide +kernel)
theorem mI_RM_left : Cond.instanceMethod y_RM_left ∈ tblG := mem_G (i := 693) (by decide +kernel) (by decide +kernel)
theorem mI_RM_rows : Cond.instanceMethod y_RM_rows ∈ tblG := mem_G (i := 698) (by decide +kernel) (by decide +kernel)
theorem mI_RM_isFree : Cond.instanceMethod y_RM_isFree ∈ tblG := mem_G (i := 702) (by decide +kernel) (by decide +kernel)
theorem mI_RM_doorsOfRow : Cond.instanceMethod y_RM_doorsOfRow ∈ tblG := mem_G (i := 706) (by decide +kernel) (by decide +kernel)
theorem mI_RM_add : Cond.instanceMethod y_RM_add ∈ tblG := mem_G (i := 709) (by decide +kernel) (by decide +kernel)
theorem mI_RM_heirs : Cond.instanceMethod y_RM_heirs ∈ tblG := mem_G (i := 713) (by decide +kernel) (by decide +kernel)
theorem mS_Math_min : Cond.static ⟨"java/lang/Math", "min", "(II)I"⟩ ∈ tblG := mem_G (i := 57) (by decide +kernel) (by decide +kernel)
theorem mS_Math_max : Cond.static ⟨"java/lang/Math", "max", "(II)I"⟩ ∈ tblG := mem_G (i := 60) (by decide +kernel) (by decide +kernel)
theorem mS_Board_isWithin : Cond.static y_Board_isWithin ∈ tblG := mem_G (i := 207) (by decide +kernel) (by decide +kernel)
theorem mS_JI_bitCount : Cond.static y_JI_bitCount ∈ tblG := mem_G (i := 211) (by decide +kernel) (by decide +kernel)
theorem mS_LW_cell : Cond.static y_LW_cell ∈ tblG := mem_G (i := 217) (by decide +kernel) (by decide +kernel)
theorem mS_LW_key : Cond.static y_LW_key ∈ tblG := mem_G (i := 220) (by decide +kernel) (by decide +kernel)
theorem mS_LW_door : Cond.static y_LW_door ∈ tblG := mem_G (i := 295) (by decide +kernel) (by decide +kernel)
theorem mS_LW_must : Cond.static y_LW_must ∈ tblG := mem_G (i := 303) (by decide +kernel) (by decide +kernel)
theorem mS_LW_step : Cond.static y_LW_step ∈ tblG := mem_G (i := 344) (by decide +kernel) (by decide +kernel)
theorem mS_LW_bar : Cond.static y_LW_bar ∈ tblG := mem_G (i := 352) (by decide +kernel) (by decide +kernel)
theorem mS_Law_pairBit : Cond.static y_Law_pairBit ∈ tblG := mem_G (i := 368) (by decide +kernel) (by decide +kernel)
theorem mS_LW_top : Cond.static y_LW_top ∈ tblG := mem_G (i := 376) (by decide +kernel) (by decide +kernel)
theorem mS_LW_run : Cond.static y_LW_run ∈ tblG := mem_G (i := 384) (by decide +kernel) (by decide +kernel)
theorem mS_Math_abs : Cond.static ⟨"java/lang/Math", "abs", "(I)I"⟩ ∈ tblG := mem_G (i := 406) (by decide +kernel) (by decide +kernel)
theorem mS_Board_bit : Cond.static y_Board_bit ∈ tblG := mem_G (i := 418) (by decide +kernel) (by decide +kernel)
theorem mS_JL_bitCount : Cond.static y_JL_bitCount ∈ tblG := mem_G (i := 435) (by decide +kernel) (by decide +kernel)
theorem mS_LW_cut : Cond.static y_LW_cut ∈ tblG := mem_G (i := 453) (by decide +kernel) (by decide +kernel)
theorem mS_LW_holds : Cond.static y_LW_holds ∈ tblG := mem_G (i := 465) (by decide +kernel) (by decide +kernel)
theorem mS_LW_fits : Cond.static y_LW_fits ∈ tblG := mem_G (i := 476) (by decide +kernel) (by decide +kernel)
theorem mS_LW_left : Cond.static y_LW_left ∈ tblG := mem_G (i := 483) (by decide +kernel) (by decide +kernel)
theorem mS_Rows_state : Cond.static y_Rows_state ∈ tblG := mem_G (i := 503) (by decide +kernel) (by decide +kernel)
theorem mS_LW_add : Cond.static y_LW_add ∈ tblG := mem_G (i := 521) (by decide +kernel) (by decide +kernel)
theorem mS_LW_heirs : Cond.static y_LW_heirs ∈ tblG := mem_G (i := 547) (by decide +kernel) (by decide +kernel)
theorem mS_RM_isIn : Cond.static y_RM_isIn ∈ tblG := mem_G (i := 629) (by decide +kernel) (by decide +kernel)
theorem mV_MK_tries : Cond.selects R_MK y_MK_tries y_MK_tries ∈ tblG := mem_G (i := 192) (by decide +kernel) (by decide +kernel)
theorem mV_MK_wrong : Cond.selects R_MK y_MK_wrong y_MK_wrong ∈ tblG := mem_G (i := 196) (by decide +kernel) (by decide +kernel)
theorem mV_Board_doorsOf : Cond.selects R_Board y_Board_doorsOf y_Board_doorsOf ∈ tblG := mem_G (i := 200) (by decide +kernel) (by decide +kernel)
theorem mV_MK_key : Cond.selects R_MK y_MK_key y_MK_key ∈ tblG := mem_G (i := 225) (by decide +kernel) (by decide +kernel)
theorem mV_MK_door : Cond.selects R_MK y_MK_door y_MK_door ∈ tblG := mem_G (i := 299) (by decide +kernel) (by decide +kernel)
theorem mV_MK_must : Cond.selects R_MK y_MK_must y_MK_must ∈ tblG := mem_G (i := 308) (by decide +kernel) (by decide +kernel)
theorem mV_Board_mustOpen : Cond.selects R_Board y_Board_mustOpen y_Board_mustOpen ∈ tblG := mem_G (i := 337) (by decide +kernel) (by decide +kernel)
theorem mV_Board_tell : Cond.selects R_Board y_Board_tell y_Board_tell ∈ tblG := mem_G (i := 341) (by decide +kernel) (by decide +kernel)
theorem mV_MK_step : Cond.selects R_MK y_MK_step y_MK_step ∈ tblG := mem_G (i := 348) (by decide +kernel) (by decide +kernel)
theorem mV_MK_bar : Cond.selects R_MK y_MK_bar y_MK_bar ∈ tblG := mem_G (i := 356) (by decide +kernel) (by decide +kernel)
theorem mV_Law_isBarred : Cond.selects R_Law y_Law_isBarred y_Law_isBarred ∈ tblG := mem_G (i := 365) (by decide +kernel) (by decide +kernel)
theorem mV_Law_setBarred : Cond.selects R_Law y_Law_setBarred y_Law_setBarred ∈ tblG := mem_G (i := 372) (by decide +kernel) (by decide +kernel)
theorem mV_MK_top : Cond.selects R_MK y_MK_top y_MK_top ∈ tblG := mem_G (i := 380) (by decide +kernel) (by decide +kernel)
theorem mV_MK_run : Cond.selects R_MK y_MK_run y_MK_run ∈ tblG := mem_G (i := 388) (by decide +kernel) (by decide +kernel)
theorem mV_Search_look : Cond.selects R_Search y_Search_look y_Search_look ∈ tblG := mem_G (i := 395) (by decide +kernel) (by decide +kernel)
theorem mV_Law_mayFollow : Cond.selects R_Law y_Law_mayFollow y_Law_mayFollow ∈ tblG := mem_G (i := 403) (by decide +kernel) (by decide +kernel)
theorem mV_Board_accepts : Cond.selects R_Board y_Board_accepts y_Board_accepts ∈ tblG := mem_G (i := 411) (by decide +kernel) (by decide +kernel)
theorem mV_MK_cut : Cond.selects R_MK y_MK_cut y_MK_cut ∈ tblG := mem_G (i := 457) (by decide +kernel) (by decide +kernel)
theorem mV_MK_holds : Cond.selects R_MK y_MK_holds y_MK_holds ∈ tblG := mem_G (i := 469) (by decide +kernel) (by decide +kernel)
theorem mV_Board_doorsHolding : Cond.selects R_Board y_Board_doorsHolding y_Board_doorsHolding ∈ tblG := mem_G (i := 473) (by decide +kernel) (by decide +kernel)
theorem mV_MK_fits : Cond.selects R_MK y_MK_fits y_MK_fits ∈ tblG := mem_G (i := 480) (by decide +kernel) (by decide +kernel)
theorem mV_MK_left : Cond.selects R_MK y_MK_left y_MK_left ∈ tblG := mem_G (i := 487) (by decide +kernel) (by decide +kernel)
theorem mV_Rows_countFree : Cond.selects R_Rows y_Rows_countFree y_Rows_countFree ∈ tblG := mem_G (i := 496) (by decide +kernel) (by decide +kernel)
theorem mV_Board_countKeys : Cond.selects R_Board y_Board_countKeys y_Board_countKeys ∈ tblG := mem_G (i := 517) (by decide +kernel) (by decide +kernel)
theorem mV_MK_add : Cond.selects R_MK y_MK_add y_MK_add ∈ tblG := mem_G (i := 525) (by decide +kernel) (by decide +kernel)
theorem mV_Board_allDoors : Cond.selects R_Board y_Board_allDoors y_Board_allDoors ∈ tblG := mem_G (i := 529) (by decide +kernel) (by decide +kernel)
theorem mV_Rows_cutLeast : Cond.selects R_Rows y_Rows_cutLeast y_Rows_cutLeast ∈ tblG := mem_G (i := 534) (by decide +kernel) (by decide +kernel)
theorem mV_Board_enter : Cond.selects R_Board y_Board_enter y_Board_enter ∈ tblG := mem_G (i := 544) (by decide +kernel) (by decide +kernel)
theorem mV_MK_heirs : Cond.selects R_MK y_MK_heirs y_MK_heirs ∈ tblG := mem_G (i := 551) (by decide +kernel) (by decide +kernel)
theorem mV_RM_thrown : Cond.selects R_RM y_RM_thrown y_RM_thrown ∈ tblG := mem_G (i := 602) (by decide +kernel) (by decide +kernel)
theorem mV_RM_key : Cond.selects R_RM y_RM_key y_RM_key ∈ tblG := mem_G (i := 606) (by decide +kernel) (by decide +kernel)
theorem mV_RM_door : Cond.selects R_RM y_RM_door y_RM_door ∈ tblG := mem_G (i := 610) (by decide +kernel) (by decide +kernel)
theorem mV_RM_must : Cond.selects R_RM y_RM_must y_RM_must ∈ tblG := mem_G (i := 614) (by decide +kernel) (by decide +kernel)
theorem mV_RM_step : Cond.selects R_RM y_RM_step y_RM_step ∈ tblG := mem_G (i := 626) (by decide +kernel) (by decide +kernel)
theorem mV_RM_bar : Cond.selects R_RM y_RM_bar y_RM_bar ∈ tblG := mem_G (i := 633) (by decide +kernel) (by decide +kernel)
theorem mV_RM_top : Cond.selects R_RM y_RM_top y_RM_top ∈ tblG := mem_G (i := 641) (by decide +kernel) (by decide +kernel)
theorem mV_RM_run : Cond.selects R_RM y_RM_run y_RM_run ∈ tblG := mem_G (i := 645) (by decide +kernel) (by decide +kernel)
theorem mV_RM_tries : Cond.selects R_RM y_RM_tries y_RM_tries ∈ tblG := mem_G (i := 670) (by decide +kernel) (by decide +kernel)
theorem mV_RM_cut : Cond.selects R_RM y_RM_cut y_RM_cut ∈ tblG := mem_G (i := 674) (by decide +kernel) (by decide +kernel)
theorem mV_RM_holds : Cond.selects R_RM y_RM_holds y_RM_holds ∈ tblG := mem_G (i := 682) (by decide +kernel) (by decide +kernel)
theorem mV_RM_fits : Cond.selects R_RM y_RM_fits y_RM_fits ∈ tblG := mem_G (i := 686) (by decide +kernel) (by decide +kernel)
theorem mV_RM_wrong : Cond.selects R_RM y_RM_wrong y_RM_wrong ∈ tblG := mem_G (i := 690) (by decide +kernel) (by decide +kernel)
theorem mV_RM_left : Cond.selects R_RM y_RM_left y_RM_left ∈ tblG := mem_G (i := 694) (by decide +kernel) (by decide +kernel)
theorem mV_RM_add : Cond.selects R_RM y_RM_add y_RM_add ∈ tblG := mem_G (i := 710) (by decide +kernel) (by decide +kernel)
theorem mV_RM_heirs : Cond.selects R_RM y_RM_heirs y_RM_heirs ∈ tblG := mem_G (i := 714) (by decide +kernel) (by decide +kernel)
theorem mV_Board_doorsFitted : Cond.selects R_Board y_Board_doorsFitted y_Board_doorsFitted ∈ tblG := mem_G (i := 0) (by decide +kernel) (by decide +kernel)
theorem mV_MK_needKey : Cond.selects R_MK y_MK_needKey y_MK_needKey ∈ tblG := mem_G (i := 2) (by decide +kernel) (by decide +kernel)
theorem mV_MK_needDoor : Cond.selects R_MK y_MK_needDoor y_MK_needDoor ∈ tblG := mem_G (i := 3) (by decide +kernel) (by decide +kernel)
theorem mV_MK_needDepth : Cond.selects R_MK y_MK_needDepth y_MK_needDepth ∈ tblG := mem_G (i := 4) (by decide +kernel) (by decide +kernel)
theorem mV_Search_stands : Cond.selects R_Search y_Search_stands y_Search_stands ∈ tblG := mem_G (i := 5) (by decide +kernel) (by decide +kernel)
theorem mV_Board_rowFromCuts : Cond.selects R_Board y_Board_rowFromCuts y_Board_rowFromCuts ∈ tblG := mem_G (i := 6) (by decide +kernel) (by decide +kernel)
theorem mV_Board_isTaken : Cond.selects R_Board y_Board_isTaken y_Board_isTaken ∈ tblG := mem_G (i := 7) (by decide +kernel) (by decide +kernel)
theorem mV_Board_doorAccepts : Cond.selects R_Board y_Board_doorAccepts y_Board_doorAccepts ∈ tblG := mem_G (i := 8) (by decide +kernel) (by decide +kernel)
theorem mV_Board_isAboveTop : Cond.selects R_Board y_Board_isAboveTop y_Board_isAboveTop ∈ tblG := mem_G (i := 9) (by decide +kernel) (by decide +kernel)
theorem mV_Board_strangerFits : Cond.selects R_Board y_Board_strangerFits y_Board_strangerFits ∈ tblG := mem_G (i := 10) (by decide +kernel) (by decide +kernel)
theorem mV_Search_goBack : Cond.selects R_Search y_Search_goBack y_Search_goBack ∈ tblG := mem_G (i := 11) (by decide +kernel) (by decide +kernel)
theorem mV_Search_goOn : Cond.selects R_Search y_Search_goOn y_Search_goOn ∈ tblG := mem_G (i := 12) (by decide +kernel) (by decide +kernel)
theorem mV_MK_needPin : Cond.selects R_MK y_MK_needPin y_MK_needPin ∈ tblG := mem_G (i := 13) (by decide +kernel) (by decide +kernel)
theorem mV_MK_needPlan : Cond.selects R_MK y_MK_needPlan y_MK_needPlan ∈ tblG := mem_G (i := 14) (by decide +kernel) (by decide +kernel)
theorem mV_Rows_countWays : Cond.selects R_Rows y_Rows_countWays y_Rows_countWays ∈ tblG := mem_G (i := 15) (by decide +kernel) (by decide +kernel)
theorem mV_Rows_countWaysBehind : Cond.selects R_Rows y_Rows_countWaysBehind y_Rows_countWaysBehind ∈ tblG := mem_G (i := 16) (by decide +kernel) (by decide +kernel)
theorem mV_Rows_addWays : Cond.selects R_Rows y_Rows_addWays y_Rows_addWays ∈ tblG := mem_G (i := 17) (by decide +kernel) (by decide +kernel)
theorem mV_Rows_leastDepth : Cond.selects R_Rows y_Rows_leastDepth y_Rows_leastDepth ∈ tblG := mem_G (i := 18) (by decide +kernel) (by decide +kernel)
theorem mV_RM_noKey : Cond.selects R_RM y_RM_noKey y_RM_noKey ∈ tblG := mem_G (i := 19) (by decide +kernel) (by decide +kernel)
theorem mV_RM_noDoor : Cond.selects R_RM y_RM_noDoor y_RM_noDoor ∈ tblG := mem_G (i := 20) (by decide +kernel) (by decide +kernel)
theorem mV_RM_noDepth : Cond.selects R_RM y_RM_noDepth y_RM_noDepth ∈ tblG := mem_G (i := 21) (by decide +kernel) (by decide +kernel)
theorem mV_RM_mayStand : Cond.selects R_RM y_RM_mayStand y_RM_mayStand ∈ tblG := mem_G (i := 22) (by decide +kernel) (by decide +kernel)
theorem mV_RM_areGood : Cond.selects R_RM y_RM_areGood y_RM_areGood ∈ tblG := mem_G (i := 23) (by decide +kernel) (by decide +kernel)
theorem mV_RM_isAlike : Cond.selects R_RM y_RM_isAlike y_RM_isAlike ∈ tblG := mem_G (i := 24) (by decide +kernel) (by decide +kernel)
theorem mV_RM_isHeld : Cond.selects R_RM y_RM_isHeld y_RM_isHeld ∈ tblG := mem_G (i := 25) (by decide +kernel) (by decide +kernel)
theorem mV_RM_isFitting : Cond.selects R_RM y_RM_isFitting y_RM_isFitting ∈ tblG := mem_G (i := 26) (by decide +kernel) (by decide +kernel)
theorem mV_RM_noPin : Cond.selects R_RM y_RM_noPin y_RM_noPin ∈ tblG := mem_G (i := 27) (by decide +kernel) (by decide +kernel)
theorem mV_RM_rows : Cond.selects R_RM y_RM_rows y_RM_rows ∈ tblG := mem_G (i := 28) (by decide +kernel) (by decide +kernel)
theorem mV_RM_isFree : Cond.selects R_RM y_RM_isFree y_RM_isFree ∈ tblG := mem_G (i := 29) (by decide +kernel) (by decide +kernel)
theorem mV_RM_doorsOfRow : Cond.selects R_RM y_RM_doorsOfRow y_RM_doorsOfRow ∈ tblG := mem_G (i := 30) (by decide +kernel) (by decide +kernel)
theorem mN_LW : Cond.initialized R_LW ∈ tblG := mem_G (i := 31) (by decide +kernel) (by decide +kernel)
theorem mN_MK : Cond.initialized R_MK ∈ tblG := mem_G (i := 32) (by decide +kernel) (by decide +kernel)
theorem mN_Law : Cond.initialized R_Law ∈ tblG := mem_G (i := 33) (by decide +kernel) (by decide +kernel)
theorem mN_Math : Cond.initialized "java/lang/Math" ∈ tblG := mem_G (i := 34) (by decide +kernel) (by decide +kernel)
theorem mN_Board : Cond.initialized R_Board ∈ tblG := mem_G (i := 35) (by decide +kernel) (by decide +kernel)
theorem mN_Search : Cond.initialized R_Search ∈ tblG := mem_G (i := 36) (by decide +kernel) (by decide +kernel)
theorem mN_Rows : Cond.initialized R_Rows ∈ tblG := mem_G (i := 37) (by decide +kernel) (by decide +kernel)
theorem mN_RM : Cond.initialized R_RM ∈ tblG := mem_G (i := 38) (by decide +kernel) (by decide +kernel)
theorem mN_Throwable : Cond.initialized "java/lang/Throwable" ∈ tblG := mem_G (i := 39) (by decide +kernel) (by decide +kernel)
theorem mN_Exception : Cond.initialized "java/lang/Exception" ∈ tblG := mem_G (i := 40) (by decide +kernel) (by decide +kernel)
theorem mN_RuntimeException : Cond.initialized "java/lang/RuntimeException" ∈ tblG := mem_G (i := 41) (by decide +kernel) (by decide +kernel)
theorem mN_ISE : Cond.initialized R_ISE ∈ tblG := mem_G (i := 42) (by decide +kernel) (by decide +kernel)
theorem mN_IAE : Cond.initialized R_IAE ∈ tblG := mem_G (i := 43) (by decide +kernel) (by decide +kernel)
theorem mN_JL : Cond.initialized R_JL ∈ tblG := mem_G (i := 44) (by decide +kernel) (by decide +kernel)
theorem mN_JI : Cond.initialized R_JI ∈ tblG := mem_G (i := 45) (by decide +kernel) (by decide +kernel)
theorem mF_Law_18 : Cond.fieldLink R_Law 18 "MasterKeys$Law" "pins" "I" ∈ tblG := mem_G (i := 66) (by decide +kernel) (by decide +kernel)
theorem mF_Rows_57 : Cond.fieldLink R_Rows 57 "MasterKeys$Law" "pins" "I" ∈ tblG := mem_G (i := 67) (by decide +kernel) (by decide +kernel)
theorem mF_Search_51 : Cond.fieldLink R_Search 51 "MasterKeys$Law" "pins" "I" ∈ tblG := mem_G (i := 68) (by decide +kernel) (by decide +kernel)
theorem mF_Board_79 : Cond.fieldLink R_Board 79 "MasterKeys$Law" "pins" "I" ∈ tblG := mem_G (i := 69) (by decide +kernel) (by decide +kernel)
theorem mF_MK_166 : Cond.fieldLink R_MK 166 "MasterKeys$Law" "pins" "I" ∈ tblG := mem_G (i := 70) (by decide +kernel) (by decide +kernel)
theorem mF_Law_21 : Cond.fieldLink R_Law 21 "MasterKeys$Law" "depths" "I" ∈ tblG := mem_G (i := 71) (by decide +kernel) (by decide +kernel)
theorem mF_Rows_28 : Cond.fieldLink R_Rows 28 "MasterKeys$Law" "depths" "I" ∈ tblG := mem_G (i := 72) (by decide +kernel) (by decide +kernel)
theorem mF_Search_61 : Cond.fieldLink R_Search 61 "MasterKeys$Law" "depths" "I" ∈ tblG := mem_G (i := 73) (by decide +kernel) (by decide +kernel)
theorem mF_MK_171 : Cond.fieldLink R_MK 171 "MasterKeys$Law" "depths" "I" ∈ tblG := mem_G (i := 74) (by decide +kernel) (by decide +kernel)
theorem mF_Law_9 : Cond.fieldLink R_Law 9 "MasterKeys$Law" "step" "I" ∈ tblG := mem_G (i := 75) (by decide +kernel) (by decide +kernel)
theorem mF_MK_92 : Cond.fieldLink R_MK 92 "MasterKeys$Law" "step" "I" ∈ tblG := mem_G (i := 76) (by decide +kernel) (by decide +kernel)
theorem mF_Law_15 : Cond.fieldLink R_Law 15 "MasterKeys$Law" "top" "I" ∈ tblG := mem_G (i := 77) (by decide +kernel) (by decide +kernel)
theorem mF_MK_106 : Cond.fieldLink R_MK 106 "MasterKeys$Law" "top" "I" ∈ tblG := mem_G (i := 78) (by decide +kernel) (by decide +kernel)
theorem mF_Board_91 : Cond.fieldLink R_Board 91 "MasterKeys$Law" "top" "I" ∈ tblG := mem_G (i := 79) (by decide +kernel) (by decide +kernel)
theorem mF_Law_24 : Cond.fieldLink R_Law 24 "MasterKeys$Law" "barred" "J" ∈ tblG := mem_G (i := 80) (by decide +kernel) (by decide +kernel)
theorem mF_Board_29 : Cond.fieldLink R_Board 29 "MasterKeys$Board" "law" "LMasterKeys$Law;" ∈ tblG := mem_G (i := 102) (by decide +kernel) (by decide +kernel)
theorem mF_MK_52 : Cond.fieldLink R_MK 52 "MasterKeys$Board" "keys" "I" ∈ tblG := mem_G (i := 103) (by decide +kernel) (by decide +kernel)
theorem mF_Rows_50 : Cond.fieldLink R_Rows 50 "MasterKeys$Board" "keys" "I" ∈ tblG := mem_G (i := 104) (by decide +kernel) (by decide +kernel)
theorem mF_Search_58 : Cond.fieldLink R_Search 58 "MasterKeys$Board" "keys" "I" ∈ tblG := mem_G (i := 105) (by decide +kernel) (by decide +kernel)
theorem mF_Board_45 : Cond.fieldLink R_Board 45 "MasterKeys$Board" "keys" "I" ∈ tblG := mem_G (i := 106) (by decide +kernel) (by decide +kernel)
theorem mF_Board_33 : Cond.fieldLink R_Board 33 "MasterKeys$Board" "doors" "I" ∈ tblG := mem_G (i := 107) (by decide +kernel) (by decide +kernel)
theorem mF_MK_67 : Cond.fieldLink R_MK 67 "MasterKeys$Board" "doors" "I" ∈ tblG := mem_G (i := 108) (by decide +kernel) (by decide +kernel)
theorem mF_Board_9 : Cond.fieldLink R_Board 9 "MasterKeys$Board" "opens" "[I" ∈ tblG := mem_G (i := 109) (by decide +kernel) (by decide +kernel)
theorem mF_MK_134 : Cond.fieldLink R_MK 134 "MasterKeys$Board" "opens" "[I" ∈ tblG := mem_G (i := 110) (by decide +kernel) (by decide +kernel)
theorem mF_Board_17 : Cond.fieldLink R_Board 17 "MasterKeys$Board" "cuts" "[[I" ∈ tblG := mem_G (i := 111) (by decide +kernel) (by decide +kernel)
theorem mF_Search_29 : Cond.fieldLink R_Search 29 "MasterKeys$Board" "cuts" "[[I" ∈ tblG := mem_G (i := 112) (by decide +kernel) (by decide +kernel)
theorem mF_Rows_47 : Cond.fieldLink R_Rows 47 "MasterKeys$Board" "cuts" "[[I" ∈ tblG := mem_G (i := 113) (by decide +kernel) (by decide +kernel)
theorem mF_MK_124 : Cond.fieldLink R_MK 124 "MasterKeys$Board" "cuts" "[[I" ∈ tblG := mem_G (i := 114) (by decide +kernel) (by decide +kernel)
theorem mF_Board_20 : Cond.fieldLink R_Board 20 "MasterKeys$Board" "rowOf" "[J" ∈ tblG := mem_G (i := 115) (by decide +kernel) (by decide +kernel)
theorem mF_Board_26 : Cond.fieldLink R_Board 26 "MasterKeys$Board" "held" "[[J" ∈ tblG := mem_G (i := 116) (by decide +kernel) (by decide +kernel)
theorem mF_Search_9 : Cond.fieldLink R_Search 9 "MasterKeys$Search" "law" "LMasterKeys$Law;" ∈ tblG := mem_G (i := 140) (by decide +kernel) (by decide +kernel)
theorem mF_Search_15 : Cond.fieldLink R_Search 15 "MasterKeys$Search" "board" "LMasterKeys$Board;" ∈ tblG := mem_G (i := 141) (by decide +kernel) (by decide +kernel)
theorem mF_Search_19 : Cond.fieldLink R_Search 19 "MasterKeys$Search" "made" "I" ∈ tblG := mem_G (i := 142) (by decide +kernel) (by decide +kernel)
theorem mF_MK_118 : Cond.fieldLink R_MK 118 "MasterKeys$Search" "made" "I" ∈ tblG := mem_G (i := 143) (by decide +kernel) (by decide +kernel)
theorem mF_Search_23 : Cond.fieldLink R_Search 23 "MasterKeys$Search" "key" "I" ∈ tblG := mem_G (i := 144) (by decide +kernel) (by decide +kernel)
theorem mF_Search_26 : Cond.fieldLink R_Search 26 "MasterKeys$Search" "pin" "I" ∈ tblG := mem_G (i := 145) (by decide +kernel) (by decide +kernel)
theorem mF_Rows_16 : Cond.fieldLink R_Rows 16 "MasterKeys$Rows" "law" "LMasterKeys$Law;" ∈ tblG := mem_G (i := 164) (by decide +kernel) (by decide +kernel)
theorem mF_Rows_20 : Cond.fieldLink R_Rows 20 "MasterKeys$Rows" "board" "LMasterKeys$Board;" ∈ tblG := mem_G (i := 165) (by decide +kernel) (by decide +kernel)
theorem mF_Rows_11 : Cond.fieldLink R_Rows 11 "MasterKeys$Rows" "ways" "[[I" ∈ tblG := mem_G (i := 166) (by decide +kernel) (by decide +kernel)
theorem mF_MK_23 : Cond.fieldLink R_MK 23 "MasterKeys" "law" "LMasterKeys$Law;" ∈ tblG := mem_G (i := 174) (by decide +kernel) (by decide +kernel)
theorem mF_MK_32 : Cond.fieldLink R_MK 32 "MasterKeys" "board" "LMasterKeys$Board;" ∈ tblG := mem_G (i := 175) (by decide +kernel) (by decide +kernel)
theorem mF_MK_41 : Cond.fieldLink R_MK 41 "MasterKeys" "search" "LMasterKeys$Search;" ∈ tblG := mem_G (i := 176) (by decide +kernel) (by decide +kernel)
theorem mF_MK_48 : Cond.fieldLink R_MK 48 "MasterKeys" "rows" "LMasterKeys$Rows;" ∈ tblG := mem_G (i := 177) (by decide +kernel) (by decide +kernel)
theorem mF_MK_63 : Cond.fieldLink R_MK 63 "MasterKeys" "found" "Z" ∈ tblG := mem_G (i := 178) (by decide +kernel) (by decide +kernel)
theorem mF_RM_36 : Cond.fieldLink R_RM 36 "MasterKeysModel" "code" "I" ∈ tblG := mem_G (i := 559) (by decide +kernel) (by decide +kernel)
theorem mF_RM_30 : Cond.fieldLink R_RM 30 "MasterKeysModel" "pins" "I" ∈ tblG := mem_G (i := 560) (by decide +kernel) (by decide +kernel)
theorem mF_RM_33 : Cond.fieldLink R_RM 33 "MasterKeysModel" "depths" "I" ∈ tblG := mem_G (i := 561) (by decide +kernel) (by decide +kernel)
theorem mF_RM_39 : Cond.fieldLink R_RM 39 "MasterKeysModel" "keys" "I" ∈ tblG := mem_G (i := 562) (by decide +kernel) (by decide +kernel)
theorem mF_RM_42 : Cond.fieldLink R_RM 42 "MasterKeysModel" "doors" "I" ∈ tblG := mem_G (i := 563) (by decide +kernel) (by decide +kernel)
theorem mF_RM_7 : Cond.fieldLink R_RM 7 "MasterKeysModel" "must" "[Z" ∈ tblG := mem_G (i := 564) (by decide +kernel) (by decide +kernel)
theorem mF_RM_13 : Cond.fieldLink R_RM 13 "MasterKeysModel" "most" "I" ∈ tblG := mem_G (i := 565) (by decide +kernel) (by decide +kernel)
theorem mF_RM_17 : Cond.fieldLink R_RM 17 "MasterKeysModel" "top" "I" ∈ tblG := mem_G (i := 566) (by decide +kernel) (by decide +kernel)
theorem mF_RM_20 : Cond.fieldLink R_RM 20 "MasterKeysModel" "barred" "[Z" ∈ tblG := mem_G (i := 567) (by decide +kernel) (by decide +kernel)
theorem mF_RM_45 : Cond.fieldLink R_RM 45 "MasterKeysModel" "found" "Z" ∈ tblG := mem_G (i := 568) (by decide +kernel) (by decide +kernel)
theorem mF_RM_75 : Cond.fieldLink R_RM 75 "MasterKeysModel" "tries" "I" ∈ tblG := mem_G (i := 569) (by decide +kernel) (by decide +kernel)
theorem mF_RM_23 : Cond.fieldLink R_RM 23 "MasterKeysModel" "cuts" "[I" ∈ tblG := mem_G (i := 570) (by decide +kernel) (by decide +kernel)
theorem mF_RM_27 : Cond.fieldLink R_RM 27 "MasterKeysModel" "row" "[I" ∈ tblG := mem_G (i := 571) (by decide +kernel) (by decide +kernel)
theorem mC_JI_265 : Cond.constant R_JI 265 1431655765 ∈ tblG := mem_G (i := 213) (by decide +kernel) (by decide +kernel)
theorem mC_JI_266 : Cond.constant R_JI 266 858993459 ∈ tblG := mem_G (i := 214) (by decide +kernel) (by decide +kernel)
theorem mC_JI_267 : Cond.constant R_JI 267 252645135 ∈ tblG := mem_G (i := 215) (by decide +kernel) (by decide +kernel)
theorem mC_MK_109 : Cond.constant R_MK 109 200000 ∈ tblG := mem_G (i := 390) (by decide +kernel) (by decide +kernel)
theorem mC_RM_74 : Cond.constant R_RM 74 200000 ∈ tblG := mem_G (i := 647) (by decide +kernel) (by decide +kernel)
theorem mC_Board_94 : Cond.constantLong R_Board 94 (-1) ∈ tblG := mem_G (i := 209) (by decide +kernel) (by decide +kernel)
theorem mC_Law_32 : Cond.constantLong R_Law 32 (-1) ∈ tblG := mem_G (i := 374) (by decide +kernel) (by decide +kernel)
theorem mC_Board_84 : Cond.constantLong R_Board 84 255 ∈ tblG := mem_G (i := 433) (by decide +kernel) (by decide +kernel)
theorem mC_JL_314 : Cond.constantLong R_JL 314 6148914691236517205 ∈ tblG := mem_G (i := 437) (by decide +kernel) (by decide +kernel)
theorem mC_JL_316 : Cond.constantLong R_JL 316 3689348814741910323 ∈ tblG := mem_G (i := 438) (by decide +kernel) (by decide +kernel)
theorem mC_JL_318 : Cond.constantLong R_JL 318 1085102592571150095 ∈ tblG := mem_G (i := 439) (by decide +kernel) (by decide +kernel)
theorem mK_LW_8 : Cond.classLink R_LW 8 R_MK ∈ tblG := mem_G (i := 46) (by decide +kernel) (by decide +kernel)
theorem mK_MK_9 : Cond.classLink R_MK 9 R_Law ∈ tblG := mem_G (i := 54) (by decide +kernel) (by decide +kernel)
theorem mK_MK_27 : Cond.classLink R_MK 27 R_Board ∈ tblG := mem_G (i := 92) (by decide +kernel) (by decide +kernel)
theorem mK_Board_15 : Cond.classLink R_Board 15 "[[I" ∈ tblG := mem_G (i := 98) (by decide +kernel) (by decide +kernel)
theorem mK_Board_24 : Cond.classLink R_Board 24 "[[J" ∈ tblG := mem_G (i := 100) (by decide +kernel) (by decide +kernel)
theorem mK_MK_36 : Cond.classLink R_MK 36 R_Search ∈ tblG := mem_G (i := 134) (by decide +kernel) (by decide +kernel)
theorem mK_MK_45 : Cond.classLink R_MK 45 R_Rows ∈ tblG := mem_G (i := 157) (by decide +kernel) (by decide +kernel)
theorem mK_Rows_9 : Cond.classLink R_Rows 9 "[[I" ∈ tblG := mem_G (i := 163) (by decide +kernel) (by decide +kernel)
theorem mK_LW_13 : Cond.classLink R_LW 13 R_ISE ∈ tblG := mem_G (i := 222) (by decide +kernel) (by decide +kernel)
theorem mK_MK_56 : Cond.classLink R_MK 56 R_ISE ∈ tblG := mem_G (i := 227) (by decide +kernel) (by decide +kernel)
theorem mK_LW_22 : Cond.classLink R_LW 22 R_IAE ∈ tblG := mem_G (i := 305) (by decide +kernel) (by decide +kernel)
theorem mK_MK_87 : Cond.classLink R_MK 87 R_IAE ∈ tblG := mem_G (i := 314) (by decide +kernel) (by decide +kernel)
theorem mK_LW_67 : Cond.classLink R_LW 67 R_RM ∈ tblG := mem_G (i := 553) (by decide +kernel) (by decide +kernel)
theorem mB_MK : Cond.instantiable R_MK 5 ∈ tblG := mem_G (i := 47) (by decide +kernel) (by decide +kernel)
theorem mB_Law : Cond.instantiable R_Law 5 ∈ tblG := mem_G (i := 55) (by decide +kernel) (by decide +kernel)
theorem mB_Board : Cond.instantiable R_Board 7 ∈ tblG := mem_G (i := 93) (by decide +kernel) (by decide +kernel)
theorem mB_Search : Cond.instantiable R_Search 5 ∈ tblG := mem_G (i := 135) (by decide +kernel) (by decide +kernel)
theorem mB_Rows : Cond.instantiable R_Rows 3 ∈ tblG := mem_G (i := 158) (by decide +kernel) (by decide +kernel)
theorem mB_RM : Cond.instantiable R_RM 13 ∈ tblG := mem_G (i := 554) (by decide +kernel) (by decide +kernel)
set_option maxRecDepth 100000 in
theorem mk_Obj_init : Cond.code objectInit object_method_1_code 1 none ∈ tblG := mem_G (i := 53) rfl (by decide +kernel)
set_option maxRecDepth 100000 in
theorem mk_Math_min : Cond.code ⟨"java/lang/Math", "min", "(II)I"⟩ prog_13_method_69_code 2 (some .int) ∈ tblG := mem_G (i := 58) rfl (by decide +kernel)
set_option maxRecDepth 100000 in
theorem mk_Math_max : Cond.code ⟨"java/lang/Math", "max", "(II)I"⟩ prog_13_method_65_code 2 (some .int) ∈ tblG := mem_G (i := 61) rfl (by decide +kernel)
set_option maxRecDepth 100000 in
theorem mk_Math_abs : Cond.code ⟨"java/lang/Math", "abs", "(I)I"⟩ prog_13_method_59_code 1 (some .int) ∈ tblG := mem_G (i := 407) rfl (by decide +kernel)
