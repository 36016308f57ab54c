section
-- ===== PART A: goes FIRST, ahead of the names: the tables' words, and 'selects' of the private methods out of them =====
/-- a private method of a class that the tables say can be made, by its rows of tables_1 -/
def lw_okq (q : MethodName × Nat) : Prop := (q.1.cls ≠ "java/lang/invoke/MethodHandle" ∧ q.1.cls ≠ "java/lang/invoke/VarHandle") ∧ Cond.instantiable q.1.cls q.2 ∈ tables_1 ∧ Cond.privateMethod q.1 ∈ tables_1 ∧ Cond.instanceMethod q.1 ∈ tables_1
theorem lw_p0 : lw_okq (⟨"MasterKeys$Board", "doorsFitted", "(J)I"⟩, 7) := ⟨⟨by decide +kernel, by decide +kernel⟩, List.mem_of_getElem? (i := 62) (by decide +kernel), List.mem_of_getElem? (i := 172) (by decide +kernel), List.mem_of_getElem? (i := 173) (by decide +kernel)⟩
theorem lw_p1 : lw_okq (⟨"java/lang/Throwable", "fillInStackTrace", "(I)Ljava/lang/Throwable;"⟩, 6) := ⟨⟨by decide +kernel, by decide +kernel⟩, List.mem_of_getElem? (i := 234) (by decide +kernel), List.mem_of_getElem? (i := 232) (by decide +kernel), List.mem_of_getElem? (i := 233) (by decide +kernel)⟩
theorem lw_p2 : lw_okq (⟨"MasterKeys", "needKey", "(I)V"⟩, 5) := ⟨⟨by decide +kernel, by decide +kernel⟩, List.mem_of_getElem? (i := 16) (by decide +kernel), List.mem_of_getElem? (i := 280) (by decide +kernel), List.mem_of_getElem? (i := 281) (by decide +kernel)⟩
theorem lw_p3 : lw_okq (⟨"MasterKeys", "needDoor", "(I)V"⟩, 5) := ⟨⟨by decide +kernel, by decide +kernel⟩, List.mem_of_getElem? (i := 16) (by decide +kernel), List.mem_of_getElem? (i := 300) (by decide +kernel), List.mem_of_getElem? (i := 301) (by decide +kernel)⟩
theorem lw_p4 : lw_okq (⟨"MasterKeys", "needDepth", "(I)V"⟩, 5) := ⟨⟨by decide +kernel, by decide +kernel⟩, List.mem_of_getElem? (i := 16) (by decide +kernel), List.mem_of_getElem? (i := 328) (by decide +kernel), List.mem_of_getElem? (i := 329) (by decide +kernel)⟩
theorem lw_p5 : lw_okq (⟨"MasterKeys$Search", "stands", "()Z"⟩, 5) := ⟨⟨by decide +kernel, by decide +kernel⟩, List.mem_of_getElem? (i := 104) (by decide +kernel), List.mem_of_getElem? (i := 367) (by decide +kernel), List.mem_of_getElem? (i := 368) (by decide +kernel)⟩
theorem lw_p6 : lw_okq (⟨"MasterKeys$Board", "rowFromCuts", "(I)J"⟩, 7) := ⟨⟨by decide +kernel, by decide +kernel⟩, List.mem_of_getElem? (i := 62) (by decide +kernel), List.mem_of_getElem? (i := 383) (by decide +kernel), List.mem_of_getElem? (i := 384) (by decide +kernel)⟩
theorem lw_p7 : lw_okq (⟨"MasterKeys$Board", "isTaken", "(JI)Z"⟩, 7) := ⟨⟨by decide +kernel, by decide +kernel⟩, List.mem_of_getElem? (i := 62) (by decide +kernel), List.mem_of_getElem? (i := 390) (by decide +kernel), List.mem_of_getElem? (i := 391) (by decide +kernel)⟩
theorem lw_p8 : lw_okq (⟨"MasterKeys$Board", "doorAccepts", "(II)Z"⟩, 7) := ⟨⟨by decide +kernel, by decide +kernel⟩, List.mem_of_getElem? (i := 62) (by decide +kernel), List.mem_of_getElem? (i := 394) (by decide +kernel), List.mem_of_getElem? (i := 395) (by decide +kernel)⟩
theorem lw_p9 : lw_okq (⟨"MasterKeys$Board", "isAboveTop", "(J)Z"⟩, 7) := ⟨⟨by decide +kernel, by decide +kernel⟩, List.mem_of_getElem? (i := 62) (by decide +kernel), List.mem_of_getElem? (i := 399) (by decide +kernel), List.mem_of_getElem? (i := 400) (by decide +kernel)⟩
theorem lw_p10 : lw_okq (⟨"MasterKeys$Board", "strangerFits", "(JII)Z"⟩, 7) := ⟨⟨by decide +kernel, by decide +kernel⟩, List.mem_of_getElem? (i := 62) (by decide +kernel), List.mem_of_getElem? (i := 410) (by decide +kernel), List.mem_of_getElem? (i := 411) (by decide +kernel)⟩
theorem lw_p11 : lw_okq (⟨"MasterKeys$Search", "goBack", "()Z"⟩, 5) := ⟨⟨by decide +kernel, by decide +kernel⟩, List.mem_of_getElem? (i := 104) (by decide +kernel), List.mem_of_getElem? (i := 414) (by decide +kernel), List.mem_of_getElem? (i := 415) (by decide +kernel)⟩
theorem lw_p12 : lw_okq (⟨"MasterKeys$Search", "goOn", "()Z"⟩, 5) := ⟨⟨by decide +kernel, by decide +kernel⟩, List.mem_of_getElem? (i := 104) (by decide +kernel), List.mem_of_getElem? (i := 418) (by decide +kernel), List.mem_of_getElem? (i := 419) (by decide +kernel)⟩
theorem lw_p13 : lw_okq (⟨"MasterKeys", "needPin", "(I)V"⟩, 5) := ⟨⟨by decide +kernel, by decide +kernel⟩, List.mem_of_getElem? (i := 16) (by decide +kernel), List.mem_of_getElem? (i := 429) (by decide +kernel), List.mem_of_getElem? (i := 430) (by decide +kernel)⟩
theorem lw_p14 : lw_okq (⟨"MasterKeys", "needPlan", "()V"⟩, 5) := ⟨⟨by decide +kernel, by decide +kernel⟩, List.mem_of_getElem? (i := 16) (by decide +kernel), List.mem_of_getElem? (i := 459) (by decide +kernel), List.mem_of_getElem? (i := 460) (by decide +kernel)⟩
theorem lw_p15 : lw_okq (⟨"MasterKeys$Rows", "countWays", "(I)V"⟩, 3) := ⟨⟨by decide +kernel, by decide +kernel⟩, List.mem_of_getElem? (i := 127) (by decide +kernel), List.mem_of_getElem? (i := 468) (by decide +kernel), List.mem_of_getElem? (i := 469) (by decide +kernel)⟩
def lw_privs_1 : List (MethodName × Nat) := [(⟨"MasterKeys$Board", "doorsFitted", "(J)I"⟩, 7), (⟨"java/lang/Throwable", "fillInStackTrace", "(I)Ljava/lang/Throwable;"⟩, 6), (⟨"MasterKeys", "needKey", "(I)V"⟩, 5), (⟨"MasterKeys", "needDoor", "(I)V"⟩, 5), (⟨"MasterKeys", "needDepth", "(I)V"⟩, 5), (⟨"MasterKeys$Search", "stands", "()Z"⟩, 5), (⟨"MasterKeys$Board", "rowFromCuts", "(I)J"⟩, 7), (⟨"MasterKeys$Board", "isTaken", "(JI)Z"⟩, 7), (⟨"MasterKeys$Board", "doorAccepts", "(II)Z"⟩, 7), (⟨"MasterKeys$Board", "isAboveTop", "(J)Z"⟩, 7), (⟨"MasterKeys$Board", "strangerFits", "(JII)Z"⟩, 7), (⟨"MasterKeys$Search", "goBack", "()Z"⟩, 5), (⟨"MasterKeys$Search", "goOn", "()Z"⟩, 5), (⟨"MasterKeys", "needPin", "(I)V"⟩, 5), (⟨"MasterKeys", "needPlan", "()V"⟩, 5), (⟨"MasterKeys$Rows", "countWays", "(I)V"⟩, 3)]
theorem lw_r1 : ∀ q ∈ lw_privs_1, lw_okq q := List.forall_mem_cons.mpr ⟨lw_p0, List.forall_mem_cons.mpr ⟨lw_p1, List.forall_mem_cons.mpr ⟨lw_p2, List.forall_mem_cons.mpr ⟨lw_p3, List.forall_mem_cons.mpr ⟨lw_p4, List.forall_mem_cons.mpr ⟨lw_p5, List.forall_mem_cons.mpr ⟨lw_p6, List.forall_mem_cons.mpr ⟨lw_p7, List.forall_mem_cons.mpr ⟨lw_p8, List.forall_mem_cons.mpr ⟨lw_p9, List.forall_mem_cons.mpr ⟨lw_p10, List.forall_mem_cons.mpr ⟨lw_p11, List.forall_mem_cons.mpr ⟨lw_p12, List.forall_mem_cons.mpr ⟨lw_p13, List.forall_mem_cons.mpr ⟨lw_p14, List.forall_mem_cons.mpr ⟨lw_p15, fun _ h => absurd h List.not_mem_nil⟩⟩⟩⟩⟩⟩⟩⟩⟩⟩⟩⟩⟩⟩⟩⟩
theorem lw_p16 : lw_okq (⟨"MasterKeys$Rows", "countWaysBehind", "(I)V"⟩, 3) := ⟨⟨by decide +kernel, by decide +kernel⟩, List.mem_of_getElem? (i := 127) (by decide +kernel), List.mem_of_getElem? (i := 475) (by decide +kernel), List.mem_of_getElem? (i := 476) (by decide +kernel)⟩
theorem lw_p17 : lw_okq (⟨"MasterKeys$Rows", "addWays", "(IIII)V"⟩, 3) := ⟨⟨by decide +kernel, by decide +kernel⟩, List.mem_of_getElem? (i := 127) (by decide +kernel), List.mem_of_getElem? (i := 481) (by decide +kernel), List.mem_of_getElem? (i := 482) (by decide +kernel)⟩
theorem lw_p18 : lw_okq (⟨"MasterKeys$Rows", "leastDepth", "(IIIJI)I"⟩, 3) := ⟨⟨by decide +kernel, by decide +kernel⟩, List.mem_of_getElem? (i := 127) (by decide +kernel), List.mem_of_getElem? (i := 507) (by decide +kernel), List.mem_of_getElem? (i := 508) (by decide +kernel)⟩
theorem lw_p19 : lw_okq (⟨"MasterKeysModel", "noKey", "(I)Z"⟩, 13) := ⟨⟨by decide +kernel, by decide +kernel⟩, List.mem_of_getElem? (i := 523) (by decide +kernel), List.mem_of_getElem? (i := 586) (by decide +kernel), List.mem_of_getElem? (i := 587) (by decide +kernel)⟩
theorem lw_p20 : lw_okq (⟨"MasterKeysModel", "noDoor", "(I)Z"⟩, 13) := ⟨⟨by decide +kernel, by decide +kernel⟩, List.mem_of_getElem? (i := 523) (by decide +kernel), List.mem_of_getElem? (i := 590) (by decide +kernel), List.mem_of_getElem? (i := 591) (by decide +kernel)⟩
theorem lw_p21 : lw_okq (⟨"MasterKeysModel", "noDepth", "(I)Z"⟩, 13) := ⟨⟨by decide +kernel, by decide +kernel⟩, List.mem_of_getElem? (i := 523) (by decide +kernel), List.mem_of_getElem? (i := 605) (by decide +kernel), List.mem_of_getElem? (i := 606) (by decide +kernel)⟩
theorem lw_p22 : lw_okq (⟨"MasterKeysModel", "mayStand", "(II)Z"⟩, 13) := ⟨⟨by decide +kernel, by decide +kernel⟩, List.mem_of_getElem? (i := 523) (by decide +kernel), List.mem_of_getElem? (i := 618) (by decide +kernel), List.mem_of_getElem? (i := 619) (by decide +kernel)⟩
theorem lw_p23 : lw_okq (⟨"MasterKeysModel", "areGood", "(I)Z"⟩, 13) := ⟨⟨by decide +kernel, by decide +kernel⟩, List.mem_of_getElem? (i := 523) (by decide +kernel), List.mem_of_getElem? (i := 622) (by decide +kernel), List.mem_of_getElem? (i := 623) (by decide +kernel)⟩
theorem lw_p24 : lw_okq (⟨"MasterKeysModel", "isAlike", "(II)Z"⟩, 13) := ⟨⟨by decide +kernel, by decide +kernel⟩, List.mem_of_getElem? (i := 523) (by decide +kernel), List.mem_of_getElem? (i := 626) (by decide +kernel), List.mem_of_getElem? (i := 627) (by decide +kernel)⟩
theorem lw_p25 : lw_okq (⟨"MasterKeysModel", "isHeld", "(IIII)Z"⟩, 13) := ⟨⟨by decide +kernel, by decide +kernel⟩, List.mem_of_getElem? (i := 523) (by decide +kernel), List.mem_of_getElem? (i := 630) (by decide +kernel), List.mem_of_getElem? (i := 631) (by decide +kernel)⟩
theorem lw_p26 : lw_okq (⟨"MasterKeysModel", "isFitting", "(III)Z"⟩, 13) := ⟨⟨by decide +kernel, by decide +kernel⟩, List.mem_of_getElem? (i := 523) (by decide +kernel), List.mem_of_getElem? (i := 634) (by decide +kernel), List.mem_of_getElem? (i := 635) (by decide +kernel)⟩
theorem lw_p27 : lw_okq (⟨"MasterKeysModel", "noPin", "(I)Z"⟩, 13) := ⟨⟨by decide +kernel, by decide +kernel⟩, List.mem_of_getElem? (i := 523) (by decide +kernel), List.mem_of_getElem? (i := 646) (by decide +kernel), List.mem_of_getElem? (i := 647) (by decide +kernel)⟩
theorem lw_p28 : lw_okq (⟨"MasterKeysModel", "rows", "()I"⟩, 13) := ⟨⟨by decide +kernel, by decide +kernel⟩, List.mem_of_getElem? (i := 523) (by decide +kernel), List.mem_of_getElem? (i := 666) (by decide +kernel), List.mem_of_getElem? (i := 667) (by decide +kernel)⟩
theorem lw_p29 : lw_okq (⟨"MasterKeysModel", "isFree", "(I)Z"⟩, 13) := ⟨⟨by decide +kernel, by decide +kernel⟩, List.mem_of_getElem? (i := 523) (by decide +kernel), List.mem_of_getElem? (i := 670) (by decide +kernel), List.mem_of_getElem? (i := 671) (by decide +kernel)⟩
theorem lw_p30 : lw_okq (⟨"MasterKeysModel", "doorsOfRow", "()I"⟩, 13) := ⟨⟨by decide +kernel, by decide +kernel⟩, List.mem_of_getElem? (i := 523) (by decide +kernel), List.mem_of_getElem? (i := 674) (by decide +kernel), List.mem_of_getElem? (i := 675) (by decide +kernel)⟩
def lw_privs_2 : List (MethodName × Nat) := [(⟨"MasterKeys$Rows", "countWaysBehind", "(I)V"⟩, 3), (⟨"MasterKeys$Rows", "addWays", "(IIII)V"⟩, 3), (⟨"MasterKeys$Rows", "leastDepth", "(IIIJI)I"⟩, 3), (⟨"MasterKeysModel", "noKey", "(I)Z"⟩, 13), (⟨"MasterKeysModel", "noDoor", "(I)Z"⟩, 13), (⟨"MasterKeysModel", "noDepth", "(I)Z"⟩, 13), (⟨"MasterKeysModel", "mayStand", "(II)Z"⟩, 13), (⟨"MasterKeysModel", "areGood", "(I)Z"⟩, 13), (⟨"MasterKeysModel", "isAlike", "(II)Z"⟩, 13), (⟨"MasterKeysModel", "isHeld", "(IIII)Z"⟩, 13), (⟨"MasterKeysModel", "isFitting", "(III)Z"⟩, 13), (⟨"MasterKeysModel", "noPin", "(I)Z"⟩, 13), (⟨"MasterKeysModel", "rows", "()I"⟩, 13), (⟨"MasterKeysModel", "isFree", "(I)Z"⟩, 13), (⟨"MasterKeysModel", "doorsOfRow", "()I"⟩, 13)]
theorem lw_r2 : ∀ q ∈ lw_privs_2, lw_okq q := List.forall_mem_cons.mpr ⟨lw_p16, List.forall_mem_cons.mpr ⟨lw_p17, List.forall_mem_cons.mpr ⟨lw_p18, List.forall_mem_cons.mpr ⟨lw_p19, List.forall_mem_cons.mpr ⟨lw_p20, List.forall_mem_cons.mpr ⟨lw_p21, List.forall_mem_cons.mpr ⟨lw_p22, List.forall_mem_cons.mpr ⟨lw_p23, List.forall_mem_cons.mpr ⟨lw_p24, List.forall_mem_cons.mpr ⟨lw_p25, List.forall_mem_cons.mpr ⟨lw_p26, List.forall_mem_cons.mpr ⟨lw_p27, List.forall_mem_cons.mpr ⟨lw_p28, List.forall_mem_cons.mpr ⟨lw_p29, List.forall_mem_cons.mpr ⟨lw_p30, fun _ h => absurd h List.not_mem_nil⟩⟩⟩⟩⟩⟩⟩⟩⟩⟩⟩⟩⟩⟩⟩
def lw_privs : List (MethodName × Nat) := lw_privs_1 ++ (lw_privs_2)
def lw_tbl : List Cond := k2_sels lw_privs ++ tables_1
theorem lw_privs_ok : ∀ q ∈ lw_privs, lw_okq q := by
  show ∀ q ∈ lw_privs_1 ++ (lw_privs_2), lw_okq q
  exact List.forall_mem_append.mpr ⟨lw_r1, lw_r2⟩
def tblG : List Cond := lw_tbl.filter goodWord
theorem mem_G {w : Cond} {i : Nat} (h : lw_tbl[i]? = some w) (g : goodWord w = true) : w ∈ tblG := List.mem_filter.mpr ⟨List.mem_of_getElem? h, g⟩
theorem good_G {ws : List Cond} (h : ∀ w ∈ ws, w ∈ tblG) : GoodIn tblG ws := fun w hw => ⟨h w hw, good_of_word (List.mem_filter.mp (h w hw)).2⟩
theorem tbl_G : ∀ w ∈ tblG, w ∈ lw_tbl := fun _ h => (List.mem_filter.mp h).1
theorem good_L {ws : List Cond} (h : ∀ w ∈ ws, w ∈ tblG) : GoodIn lw_tbl ws := fun w hw => ⟨tbl_G w (h w hw), good_of_word (List.mem_filter.mp (h w hw)).2⟩
theorem gCode {c2 : Cond} (h5 : c2 ∈ tblG) : ∀ w ∈ c2 :: tblG, w ∈ tblG := fun w hw => (List.mem_cons.mp hw).elim (fun e => e ▸ h5) id
theorem gV {own C : String} {idx : Nat} {y : MethodName} {c2 : Cond} (h1 : Cond.methodLink own idx y ∈ tblG) (h2 : Cond.instanceMethod y ∈ tblG) (h3 : Cond.selects C y y ∈ tblG) (h4 : Cond.initialized C ∈ tblG) (h5 : c2 ∈ tblG) : ∀ w ∈ wsV own idx C y (c2 :: tblG), w ∈ tblG := by
  intro w hw
  rcases List.mem_append.mp hw with h | h
  · simp only [List.mem_cons, List.not_mem_nil, or_false] at h
    rcases h with rfl | rfl | rfl | rfl <;> assumption
  · exact gCode h5 w h
theorem gS {own : String} {idx : Nat} {y : MethodName} {c2 : Cond} (h1 : Cond.methodLink own idx y ∈ tblG) (h2 : Cond.static y ∈ tblG) (h4 : Cond.initialized y.cls ∈ tblG) (h5 : c2 ∈ tblG) : ∀ w ∈ va_wsS own idx y (c2 :: tblG), w ∈ tblG := by
  intro w hw
  rcases List.mem_append.mp hw with h | h
  · simp only [List.mem_cons, List.not_mem_nil, or_false] at h
    rcases h with rfl | rfl | rfl <;> assumption
  · exact gCode h5 w h
abbrev R_MK : String := "MasterKeys"
abbrev R_Law : String := "MasterKeys$Law"
abbrev R_Board : String := "MasterKeys$Board"
abbrev R_Search : String := "MasterKeys$Search"
abbrev R_Rows : String := "MasterKeys$Rows"
abbrev R_RM : String := "MasterKeysModel"
abbrev R_LW : String := "MasterKeysLaw"
abbrev R_JI : String := "java/lang/Integer"
abbrev R_JL : String := "java/lang/Long"
abbrev R_ISE : String := "java/lang/IllegalStateException"
abbrev R_IAE : String := "java/lang/IllegalArgumentException"
def T_MK : u_T := fun k => match k with
  | 0 => ("MasterKeys", "law", "LMasterKeys$Law;", true)
  | 1 => ("MasterKeys", "board", "LMasterKeys$Board;", true)
  | 2 => ("MasterKeys", "search", "LMasterKeys$Search;", true)
  | 3 => ("MasterKeys", "rows", "LMasterKeys$Rows;", true)
  | _ => ("MasterKeys", "found", "Z", false)
def t_MK : Nat → FieldType := fun k => match k with
  | 0 => .object "MasterKeys$Law"
  | 1 => .object "MasterKeys$Board"
  | 2 => .object "MasterKeys$Search"
  | 3 => .object "MasterKeys$Rows"
  | _ => .boolean
theorem n_MK : ∀ a, a < 5 → ∀ b, b < 5 → a ≠ b → (T_MK a).2.1 ≠ (T_MK b).2.1 := by decide +kernel
theorem t_MK_ok : ∀ k, k < 5 → parseFieldDescriptor (T_MK k).2.2.1 = some (t_MK k) := by decide +kernel
theorem i_MK : ∀ w ∈ u_ws R_MK T_MK 5, w ∈ tblG := by decide +kernel
def T_Law : u_T := fun k => match k with
  | 0 => ("MasterKeys$Law", "pins", "I", true)
  | 1 => ("MasterKeys$Law", "depths", "I", true)
  | 2 => ("MasterKeys$Law", "step", "I", false)
  | 3 => ("MasterKeys$Law", "top", "I", false)
  | _ => ("MasterKeys$Law", "barred", "J", false)
def t_Law : Nat → FieldType := fun k => match k with
  | 0 => .int
  | 1 => .int
  | 2 => .int
  | 3 => .int
  | _ => .long
theorem n_Law : ∀ a, a < 5 → ∀ b, b < 5 → a ≠ b → (T_Law a).2.1 ≠ (T_Law b).2.1 := by decide +kernel
theorem t_Law_ok : ∀ k, k < 5 → parseFieldDescriptor (T_Law k).2.2.1 = some (t_Law k) := by decide +kernel
theorem i_Law : ∀ w ∈ u_ws R_Law T_Law 5, w ∈ tblG := by decide +kernel
def T_Board : u_T := fun k => match k with
  | 0 => ("MasterKeys$Board", "law", "LMasterKeys$Law;", true)
  | 1 => ("MasterKeys$Board", "keys", "I", false)
  | 2 => ("MasterKeys$Board", "doors", "I", false)
  | 3 => ("MasterKeys$Board", "opens", "[I", true)
  | 4 => ("MasterKeys$Board", "cuts", "[[I", true)
  | 5 => ("MasterKeys$Board", "rowOf", "[J", true)
  | _ => ("MasterKeys$Board", "held", "[[J", true)
def t_Board : Nat → FieldType := fun k => match k with
  | 0 => .object "MasterKeys$Law"
  | 1 => .int
  | 2 => .int
  | 3 => .array .int
  | 4 => .array (.array .int)
  | 5 => .array .long
  | _ => .array (.array .long)
theorem n_Board : ∀ a, a < 7 → ∀ b, b < 7 → a ≠ b → (T_Board a).2.1 ≠ (T_Board b).2.1 := by decide +kernel
theorem t_Board_ok : ∀ k, k < 7 → parseFieldDescriptor (T_Board k).2.2.1 = some (t_Board k) := by decide +kernel
theorem i_Board : ∀ w ∈ u_ws R_Board T_Board 7, w ∈ tblG := by decide +kernel
def T_Search : u_T := fun k => match k with
  | 0 => ("MasterKeys$Search", "law", "LMasterKeys$Law;", true)
  | 1 => ("MasterKeys$Search", "board", "LMasterKeys$Board;", true)
  | 2 => ("MasterKeys$Search", "made", "I", false)
  | 3 => ("MasterKeys$Search", "key", "I", false)
  | _ => ("MasterKeys$Search", "pin", "I", false)
def t_Search : Nat → FieldType := fun k => match k with
  | 0 => .object "MasterKeys$Law"
  | 1 => .object "MasterKeys$Board"
  | 2 => .int
  | 3 => .int
  | _ => .int
theorem n_Search : ∀ a, a < 5 → ∀ b, b < 5 → a ≠ b → (T_Search a).2.1 ≠ (T_Search b).2.1 := by decide +kernel
theorem t_Search_ok : ∀ k, k < 5 → parseFieldDescriptor (T_Search k).2.2.1 = some (t_Search k) := by decide +kernel
theorem i_Search : ∀ w ∈ u_ws R_Search T_Search 5, w ∈ tblG := by decide +kernel
def T_Rows : u_T := fun k => match k with
  | 0 => ("MasterKeys$Rows", "law", "LMasterKeys$Law;", true)
  | 1 => ("MasterKeys$Rows", "board", "LMasterKeys$Board;", true)
  | _ => ("MasterKeys$Rows", "ways", "[[I", true)
def t_Rows : Nat → FieldType := fun k => match k with
  | 0 => .object "MasterKeys$Law"
  | 1 => .object "MasterKeys$Board"
  | _ => .array (.array .int)
theorem n_Rows : ∀ a, a < 3 → ∀ b, b < 3 → a ≠ b → (T_Rows a).2.1 ≠ (T_Rows b).2.1 := by decide +kernel
theorem t_Rows_ok : ∀ k, k < 3 → parseFieldDescriptor (T_Rows k).2.2.1 = some (t_Rows k) := by decide +kernel
theorem i_Rows : ∀ w ∈ u_ws R_Rows T_Rows 3, w ∈ tblG := by decide +kernel
def T_RM : u_T := fun k => match k with
  | 0 => ("MasterKeysModel", "code", "I", false)
  | 1 => ("MasterKeysModel", "pins", "I", true)
  | 2 => ("MasterKeysModel", "depths", "I", true)
  | 3 => ("MasterKeysModel", "keys", "I", false)
  | 4 => ("MasterKeysModel", "doors", "I", false)
  | 5 => ("MasterKeysModel", "must", "[Z", true)
  | 6 => ("MasterKeysModel", "most", "I", false)
  | 7 => ("MasterKeysModel", "top", "I", false)
  | 8 => ("MasterKeysModel", "barred", "[Z", true)
  | 9 => ("MasterKeysModel", "found", "Z", false)
  | 10 => ("MasterKeysModel", "tries", "I", false)
  | 11 => ("MasterKeysModel", "cuts", "[I", true)
  | _ => ("MasterKeysModel", "row", "[I", true)
def t_RM : Nat → FieldType := fun k => match k with
  | 0 => .int
  | 1 => .int
  | 2 => .int
  | 3 => .int
  | 4 => .int
  | 5 => .array .boolean
  | 6 => .int
  | 7 => .int
  | 8 => .array .boolean
  | 9 => .boolean
  | 10 => .int
  | 11 => .array .int
  | _ => .array .int
theorem n_RM : ∀ a, a < 13 → ∀ b, b < 13 → a ≠ b → (T_RM a).2.1 ≠ (T_RM b).2.1 := by decide +kernel
theorem t_RM_ok : ∀ k, k < 13 → parseFieldDescriptor (T_RM k).2.2.1 = some (t_RM k) := by decide +kernel
theorem i_RM : ∀ w ∈ u_ws R_RM T_RM 13, w ∈ tblG := by decide +kernel
abbrev vwCl : List vw_C := [(R_MK, T_MK, 5), (R_Law, T_Law, 5), (R_Board, T_Board, 7), (R_Search, T_Search, 5), (R_Rows, T_Rows, 3), (R_RM, T_RM, 13)]
abbrev b_MK_init : ByteArray := prog_1_method_1_code
abbrev y_MK_init : MethodName := ⟨R_MK, "<init>", "(II)V"⟩
abbrev k_MK_init : Cond := .code y_MK_init b_MK_init 3 none
abbrev w_MK_init : List Cond := k_MK_init :: tblG
set_option maxRecDepth 100000 in
theorem mk_MK_init : k_MK_init ∈ tblG := mem_G (i := 50) rfl (by decide +kernel)
abbrev b_Law_init : ByteArray := prog_3_method_1_code
abbrev y_Law_init : MethodName := ⟨R_Law, "<init>", "(II)V"⟩
abbrev k_Law_init : Cond := .code y_Law_init b_Law_init 3 none
abbrev w_Law_init : List Cond := k_Law_init :: tblG
set_option maxRecDepth 100000 in
theorem mk_Law_init : k_Law_init ∈ tblG := mem_G (i := 64) rfl (by decide +kernel)
abbrev b_Board_init : ByteArray := prog_2_method_1_code
abbrev y_Board_init : MethodName := ⟨R_Board, "<init>", "(LMasterKeys$Law;)V"⟩
abbrev k_Board_init : Cond := .code y_Board_init b_Board_init 2 none
abbrev w_Board_init : List Cond := k_Board_init :: tblG
set_option maxRecDepth 100000 in
theorem mk_Board_init : k_Board_init ∈ tblG := mem_G (i := 96) rfl (by decide +kernel)
abbrev b_Search_init : ByteArray := prog_5_method_1_code
abbrev y_Search_init : MethodName := ⟨R_Search, "<init>", "(LMasterKeys$Law;LMasterKeys$Board;)V"⟩
abbrev k_Search_init : Cond := .code y_Search_init b_Search_init 3 none
abbrev w_Search_init : List Cond := k_Search_init :: tblG
set_option maxRecDepth 100000 in
theorem mk_Search_init : k_Search_init ∈ tblG := mem_G (i := 138) rfl (by decide +kernel)
abbrev b_Rows_init : ByteArray := prog_4_method_1_code
abbrev y_Rows_init : MethodName := ⟨R_Rows, "<init>", "(LMasterKeys$Law;LMasterKeys$Board;)V"⟩
abbrev k_Rows_init : Cond := .code y_Rows_init b_Rows_init 3 none
abbrev w_Rows_init : List Cond := k_Rows_init :: tblG
set_option maxRecDepth 100000 in
theorem mk_Rows_init : k_Rows_init ∈ tblG := mem_G (i := 161) rfl (by decide +kernel)
abbrev b_MK_tries : ByteArray := prog_1_method_9_code
abbrev y_MK_tries : MethodName := ⟨R_MK, "tries", "()I"⟩
abbrev k_MK_tries : Cond := .code y_MK_tries b_MK_tries 1 (some .int)
abbrev w_MK_tries : List Cond := k_MK_tries :: tblG
set_option maxRecDepth 100000 in
theorem mk_MK_tries : k_MK_tries ∈ tblG := mem_G (i := 193) rfl (by decide +kernel)
abbrev b_MK_wrong : ByteArray := prog_1_method_13_code
abbrev y_MK_wrong : MethodName := ⟨R_MK, "wrong", "()I"⟩
abbrev k_MK_wrong : Cond := .code y_MK_wrong b_MK_wrong 3 (some .int)
abbrev w_MK_wrong : List Cond := k_MK_wrong :: tblG
set_option maxRecDepth 100000 in
theorem mk_MK_wrong : k_MK_wrong ∈ tblG := mem_G (i := 197) rfl (by decide +kernel)
abbrev b_Board_doorsOf : ByteArray := prog_2_method_7_code
abbrev y_Board_doorsOf : MethodName := ⟨R_Board, "doorsOf", "(I)I"⟩
abbrev k_Board_doorsOf : Cond := .code y_Board_doorsOf b_Board_doorsOf 2 (some .int)
abbrev w_Board_doorsOf : List Cond := k_Board_doorsOf :: tblG
set_option maxRecDepth 100000 in
theorem mk_Board_doorsOf : k_Board_doorsOf ∈ tblG := mem_G (i := 201) rfl (by decide +kernel)
abbrev b_Board_doorsFitted : ByteArray := prog_2_method_8_code
abbrev y_Board_doorsFitted : MethodName := ⟨R_Board, "doorsFitted", "(J)I"⟩
abbrev k_Board_doorsFitted : Cond := .code y_Board_doorsFitted b_Board_doorsFitted 5 (some .int)
abbrev w_Board_doorsFitted : List Cond := k_Board_doorsFitted :: tblG
set_option maxRecDepth 100000 in
theorem mk_Board_doorsFitted : k_Board_doorsFitted ∈ tblG := mem_G (i := 205) rfl (by decide +kernel)
abbrev b_Board_isWithin : ByteArray := prog_2_method_17_code
abbrev y_Board_isWithin : MethodName := ⟨R_Board, "isWithin", "(JJ)Z"⟩
abbrev k_Board_isWithin : Cond := .code y_Board_isWithin b_Board_isWithin 4 (some .boolean)
abbrev w_Board_isWithin : List Cond := k_Board_isWithin :: tblG
set_option maxRecDepth 100000 in
theorem mk_Board_isWithin : k_Board_isWithin ∈ tblG := mem_G (i := 208) rfl (by decide +kernel)
abbrev b_JI_bitCount : ByteArray := prog_11_method_49_code
abbrev y_JI_bitCount : MethodName := ⟨R_JI, "bitCount", "(I)I"⟩
abbrev k_JI_bitCount : Cond := .code y_JI_bitCount b_JI_bitCount 1 (some .int)
abbrev w_JI_bitCount : List Cond := k_JI_bitCount :: tblG
set_option maxRecDepth 100000 in
theorem mk_JI_bitCount : k_JI_bitCount ∈ tblG := mem_G (i := 212) rfl (by decide +kernel)
abbrev b_LW_cell : ByteArray := method_2_code
abbrev y_LW_cell : MethodName := ⟨R_LW, "cell", "([II)I"⟩
abbrev k_LW_cell : Cond := .code y_LW_cell b_LW_cell 2 (some .int)
abbrev w_LW_cell : List Cond := k_LW_cell :: tblG
set_option maxRecDepth 100000 in
theorem mk_LW_cell : k_LW_cell ∈ tblG := mem_G (i := 218) rfl (by decide +kernel)
abbrev b_LW_key : ByteArray := method_3_code
abbrev y_LW_key : MethodName := ⟨R_LW, "key", "(LMasterKeys;[J)I"⟩
abbrev k_LW_key : Cond := .codeWith y_LW_key b_LW_key 3 (some .int) [(0, 8, 11, 13)]
abbrev w_LW_key : List Cond := k_LW_key :: tblG
set_option maxRecDepth 100000 in
theorem mk_LW_key : k_LW_key ∈ tblG := mem_G (i := 221) rfl (by decide +kernel)
abbrev b_MK_key : ByteArray := prog_1_method_2_code
abbrev y_MK_key : MethodName := ⟨R_MK, "key", "()I"⟩
abbrev k_MK_key : Cond := .code y_MK_key b_MK_key 1 (some .int)
abbrev w_MK_key : List Cond := k_MK_key :: tblG
set_option maxRecDepth 100000 in
theorem mk_MK_key : k_MK_key ∈ tblG := mem_G (i := 226) rfl (by decide +kernel)
abbrev b_LW_door : ByteArray := method_4_code
abbrev y_LW_door : MethodName := ⟨R_LW, "door", "(LMasterKeys;[J)I"⟩
abbrev k_LW_door : Cond := .codeWith y_LW_door b_LW_door 3 (some .int) [(0, 8, 11, 13)]
abbrev w_LW_door : List Cond := k_LW_door :: tblG
set_option maxRecDepth 100000 in
theorem mk_LW_door : k_LW_door ∈ tblG := mem_G (i := 296) rfl (by decide +kernel)
abbrev b_MK_door : ByteArray := prog_1_method_3_code
abbrev y_MK_door : MethodName := ⟨R_MK, "door", "()I"⟩
abbrev k_MK_door : Cond := .code y_MK_door b_MK_door 1 (some .int)
abbrev w_MK_door : List Cond := k_MK_door :: tblG
set_option maxRecDepth 100000 in
theorem mk_MK_door : k_MK_door ∈ tblG := mem_G (i := 300) rfl (by decide +kernel)
abbrev b_LW_must : ByteArray := method_5_code
abbrev y_LW_must : MethodName := ⟨R_LW, "must", "(LMasterKeys;IIZ[J)I"⟩
abbrev k_LW_must : Cond := .codeWith y_LW_must b_LW_must 6 (some .int) [(0, 19, 22, 22)]
abbrev w_LW_must : List Cond := k_LW_must :: tblG
set_option maxRecDepth 100000 in
theorem mk_LW_must : k_LW_must ∈ tblG := mem_G (i := 304) rfl (by decide +kernel)
abbrev b_MK_must : ByteArray := prog_1_method_4_code
abbrev y_MK_must : MethodName := ⟨R_MK, "must", "(IIZ)Z"⟩
abbrev k_MK_must : Cond := .code y_MK_must b_MK_must 5 (some .boolean)
abbrev w_MK_must : List Cond := k_MK_must :: tblG
set_option maxRecDepth 100000 in
theorem mk_MK_must : k_MK_must ∈ tblG := mem_G (i := 309) rfl (by decide +kernel)
abbrev b_MK_needKey : ByteArray := prog_1_method_17_code
abbrev y_MK_needKey : MethodName := ⟨R_MK, "needKey", "(I)V"⟩
abbrev k_MK_needKey : Cond := .code y_MK_needKey b_MK_needKey 2 none
abbrev w_MK_needKey : List Cond := k_MK_needKey :: tblG
set_option maxRecDepth 100000 in
theorem mk_MK_needKey : k_MK_needKey ∈ tblG := mem_G (i := 313) rfl (by decide +kernel)
abbrev b_MK_needDoor : ByteArray := prog_1_method_18_code
abbrev y_MK_needDoor : MethodName := ⟨R_MK, "needDoor", "(I)V"⟩
abbrev k_MK_needDoor : Cond := .code y_MK_needDoor b_MK_needDoor 2 none
abbrev w_MK_needDoor : List Cond := k_MK_needDoor :: tblG
set_option maxRecDepth 100000 in
theorem mk_MK_needDoor : k_MK_needDoor ∈ tblG := mem_G (i := 333) rfl (by decide +kernel)
abbrev b_Board_mustOpen : ByteArray := prog_2_method_4_code
abbrev y_Board_mustOpen : MethodName := ⟨R_Board, "mustOpen", "(II)Z"⟩
abbrev k_Board_mustOpen : Cond := .code y_Board_mustOpen b_Board_mustOpen 3 (some .boolean)
abbrev w_Board_mustOpen : List Cond := k_Board_mustOpen :: tblG
set_option maxRecDepth 100000 in
theorem mk_Board_mustOpen : k_Board_mustOpen ∈ tblG := mem_G (i := 338) rfl (by decide +kernel)
abbrev b_Board_tell : ByteArray := prog_2_method_5_code
abbrev y_Board_tell : MethodName := ⟨R_Board, "tell", "(IIZ)V"⟩
abbrev k_Board_tell : Cond := .code y_Board_tell b_Board_tell 4 none
abbrev w_Board_tell : List Cond := k_Board_tell :: tblG
set_option maxRecDepth 100000 in
theorem mk_Board_tell : k_Board_tell ∈ tblG := mem_G (i := 342) rfl (by decide +kernel)
abbrev b_LW_step : ByteArray := method_6_code
abbrev y_LW_step : MethodName := ⟨R_LW, "step", "(LMasterKeys;I[J)I"⟩
abbrev k_LW_step : Cond := .codeWith y_LW_step b_LW_step 4 (some .int) [(0, 9, 12, 22)]
abbrev w_LW_step : List Cond := k_LW_step :: tblG
set_option maxRecDepth 100000 in
theorem mk_LW_step : k_LW_step ∈ tblG := mem_G (i := 345) rfl (by decide +kernel)
abbrev b_MK_step : ByteArray := prog_1_method_5_code
abbrev y_MK_step : MethodName := ⟨R_MK, "step", "(I)I"⟩
abbrev k_MK_step : Cond := .code y_MK_step b_MK_step 3 (some .int)
abbrev w_MK_step : List Cond := k_MK_step :: tblG
set_option maxRecDepth 100000 in
theorem mk_MK_step : k_MK_step ∈ tblG := mem_G (i := 349) rfl (by decide +kernel)
abbrev b_LW_bar : ByteArray := method_7_code
abbrev y_LW_bar : MethodName := ⟨R_LW, "bar", "(LMasterKeys;IIZ[J)I"⟩
abbrev k_LW_bar : Cond := .codeWith y_LW_bar b_LW_bar 6 (some .int) [(0, 19, 22, 22)]
abbrev w_LW_bar : List Cond := k_LW_bar :: tblG
set_option maxRecDepth 100000 in
theorem mk_LW_bar : k_LW_bar ∈ tblG := mem_G (i := 353) rfl (by decide +kernel)
abbrev b_MK_bar : ByteArray := prog_1_method_6_code
abbrev y_MK_bar : MethodName := ⟨R_MK, "bar", "(IIZ)Z"⟩
abbrev k_MK_bar : Cond := .code y_MK_bar b_MK_bar 5 (some .boolean)
abbrev w_MK_bar : List Cond := k_MK_bar :: tblG
set_option maxRecDepth 100000 in
theorem mk_MK_bar : k_MK_bar ∈ tblG := mem_G (i := 357) rfl (by decide +kernel)
abbrev b_MK_needDepth : ByteArray := prog_1_method_20_code
abbrev y_MK_needDepth : MethodName := ⟨R_MK, "needDepth", "(I)V"⟩
abbrev k_MK_needDepth : Cond := .code y_MK_needDepth b_MK_needDepth 2 none
abbrev w_MK_needDepth : List Cond := k_MK_needDepth :: tblG
set_option maxRecDepth 100000 in
theorem mk_MK_needDepth : k_MK_needDepth ∈ tblG := mem_G (i := 361) rfl (by decide +kernel)
abbrev b_Law_isBarred : ByteArray := prog_3_method_2_code
abbrev y_Law_isBarred : MethodName := ⟨R_Law, "isBarred", "(II)Z"⟩
abbrev k_Law_isBarred : Cond := .code y_Law_isBarred b_Law_isBarred 3 (some .boolean)
abbrev w_Law_isBarred : List Cond := k_Law_isBarred :: tblG
set_option maxRecDepth 100000 in
theorem mk_Law_isBarred : k_Law_isBarred ∈ tblG := mem_G (i := 366) rfl (by decide +kernel)
abbrev b_Law_pairBit : ByteArray := prog_3_method_5_code
abbrev y_Law_pairBit : MethodName := ⟨R_Law, "pairBit", "(II)J"⟩
abbrev k_Law_pairBit : Cond := .code y_Law_pairBit b_Law_pairBit 2 (some .long)
abbrev w_Law_pairBit : List Cond := k_Law_pairBit :: tblG
set_option maxRecDepth 100000 in
theorem mk_Law_pairBit : k_Law_pairBit ∈ tblG := mem_G (i := 369) rfl (by decide +kernel)
abbrev b_Law_setBarred : ByteArray := prog_3_method_3_code
abbrev y_Law_setBarred : MethodName := ⟨R_Law, "setBarred", "(IIZ)V"⟩
abbrev k_Law_setBarred : Cond := .code y_Law_setBarred b_Law_setBarred 4 none
abbrev w_Law_setBarred : List Cond := k_Law_setBarred :: tblG
set_option maxRecDepth 100000 in
theorem mk_Law_setBarred : k_Law_setBarred ∈ tblG := mem_G (i := 373) rfl (by decide +kernel)
abbrev b_LW_top : ByteArray := method_8_code
abbrev y_LW_top : MethodName := ⟨R_LW, "top", "(LMasterKeys;I[J)I"⟩
abbrev k_LW_top : Cond := .codeWith y_LW_top b_LW_top 4 (some .int) [(0, 9, 12, 22)]
abbrev w_LW_top : List Cond := k_LW_top :: tblG
set_option maxRecDepth 100000 in
theorem mk_LW_top : k_LW_top ∈ tblG := mem_G (i := 377) rfl (by decide +kernel)
abbrev b_MK_top : ByteArray := prog_1_method_7_code
abbrev y_MK_top : MethodName := ⟨R_MK, "top", "(I)I"⟩
abbrev k_MK_top : Cond := .code y_MK_top b_MK_top 3 (some .int)
abbrev w_MK_top : List Cond := k_MK_top :: tblG
set_option maxRecDepth 100000 in
theorem mk_MK_top : k_MK_top ∈ tblG := mem_G (i := 381) rfl (by decide +kernel)
abbrev b_LW_run : ByteArray := method_9_code
abbrev y_LW_run : MethodName := ⟨R_LW, "run", "(LMasterKeys;I[J)I"⟩
abbrev k_LW_run : Cond := .codeWith y_LW_run b_LW_run 4 (some .int) [(0, 9, 12, 22), (0, 9, 15, 13)]
abbrev w_LW_run : List Cond := k_LW_run :: tblG
set_option maxRecDepth 100000 in
theorem mk_LW_run : k_LW_run ∈ tblG := mem_G (i := 385) rfl (by decide +kernel)
abbrev b_MK_run : ByteArray := prog_1_method_8_code
abbrev y_MK_run : MethodName := ⟨R_MK, "run", "(I)I"⟩
abbrev k_MK_run : Cond := .code y_MK_run b_MK_run 3 (some .int)
abbrev w_MK_run : List Cond := k_MK_run :: tblG
set_option maxRecDepth 100000 in
theorem mk_MK_run : k_MK_run ∈ tblG := mem_G (i := 389) rfl (by decide +kernel)
abbrev b_Search_look : ByteArray := prog_5_method_2_code
abbrev y_Search_look : MethodName := ⟨R_Search, "look", "(I)I"⟩
abbrev k_Search_look : Cond := .code y_Search_look b_Search_look 2 (some .int)
abbrev w_Search_look : List Cond := k_Search_look :: tblG
set_option maxRecDepth 100000 in
theorem mk_Search_look : k_Search_look ∈ tblG := mem_G (i := 396) rfl (by decide +kernel)
abbrev b_Search_stands : ByteArray := prog_5_method_3_code
abbrev y_Search_stands : MethodName := ⟨R_Search, "stands", "()Z"⟩
abbrev k_Search_stands : Cond := .code y_Search_stands b_Search_stands 2 (some .boolean)
abbrev w_Search_stands : List Cond := k_Search_stands :: tblG
set_option maxRecDepth 100000 in
theorem mk_Search_stands : k_Search_stands ∈ tblG := mem_G (i := 400) rfl (by decide +kernel)
abbrev b_Law_mayFollow : ByteArray := prog_3_method_4_code
abbrev y_Law_mayFollow : MethodName := ⟨R_Law, "mayFollow", "(II)Z"⟩
abbrev k_Law_mayFollow : Cond := .code y_Law_mayFollow b_Law_mayFollow 3 (some .boolean)
abbrev w_Law_mayFollow : List Cond := k_Law_mayFollow :: tblG
set_option maxRecDepth 100000 in
theorem mk_Law_mayFollow : k_Law_mayFollow ∈ tblG := mem_G (i := 404) rfl (by decide +kernel)
abbrev b_Board_accepts : ByteArray := prog_2_method_11_code
abbrev y_Board_accepts : MethodName := ⟨R_Board, "accepts", "(I)Z"⟩
abbrev k_Board_accepts : Cond := .code y_Board_accepts b_Board_accepts 5 (some .boolean)
abbrev w_Board_accepts : List Cond := k_Board_accepts :: tblG
set_option maxRecDepth 100000 in
theorem mk_Board_accepts : k_Board_accepts ∈ tblG := mem_G (i := 412) rfl (by decide +kernel)
abbrev b_Board_rowFromCuts : ByteArray := prog_2_method_16_code
abbrev y_Board_rowFromCuts : MethodName := ⟨R_Board, "rowFromCuts", "(I)J"⟩
abbrev k_Board_rowFromCuts : Cond := .code y_Board_rowFromCuts b_Board_rowFromCuts 5 (some .long)
abbrev w_Board_rowFromCuts : List Cond := k_Board_rowFromCuts :: tblG
set_option maxRecDepth 100000 in
theorem mk_Board_rowFromCuts : k_Board_rowFromCuts ∈ tblG := mem_G (i := 416) rfl (by decide +kernel)
abbrev b_Board_bit : ByteArray := prog_2_method_2_code
abbrev y_Board_bit : MethodName := ⟨R_Board, "bit", "(II)J"⟩
abbrev k_Board_bit : Cond := .code y_Board_bit b_Board_bit 2 (some .long)
abbrev w_Board_bit : List Cond := k_Board_bit :: tblG
set_option maxRecDepth 100000 in
theorem mk_Board_bit : k_Board_bit ∈ tblG := mem_G (i := 419) rfl (by decide +kernel)
abbrev b_Board_isTaken : ByteArray := prog_2_method_15_code
abbrev y_Board_isTaken : MethodName := ⟨R_Board, "isTaken", "(JI)Z"⟩
abbrev k_Board_isTaken : Cond := .code y_Board_isTaken b_Board_isTaken 5 (some .boolean)
abbrev w_Board_isTaken : List Cond := k_Board_isTaken :: tblG
set_option maxRecDepth 100000 in
theorem mk_Board_isTaken : k_Board_isTaken ∈ tblG := mem_G (i := 423) rfl (by decide +kernel)
abbrev b_Board_doorAccepts : ByteArray := prog_2_method_12_code
abbrev y_Board_doorAccepts : MethodName := ⟨R_Board, "doorAccepts", "(II)Z"⟩
abbrev k_Board_doorAccepts : Cond := .code y_Board_doorAccepts b_Board_doorAccepts 7 (some .boolean)
abbrev w_Board_doorAccepts : List Cond := k_Board_doorAccepts :: tblG
set_option maxRecDepth 100000 in
theorem mk_Board_doorAccepts : k_Board_doorAccepts ∈ tblG := mem_G (i := 427) rfl (by decide +kernel)
abbrev b_Board_isAboveTop : ByteArray := prog_2_method_13_code
abbrev y_Board_isAboveTop : MethodName := ⟨R_Board, "isAboveTop", "(J)Z"⟩
abbrev k_Board_isAboveTop : Cond := .code y_Board_isAboveTop b_Board_isAboveTop 4 (some .boolean)
abbrev w_Board_isAboveTop : List Cond := k_Board_isAboveTop :: tblG
set_option maxRecDepth 100000 in
theorem mk_Board_isAboveTop : k_Board_isAboveTop ∈ tblG := mem_G (i := 432) rfl (by decide +kernel)
abbrev b_JL_bitCount : ByteArray := prog_12_method_50_code
abbrev y_JL_bitCount : MethodName := ⟨R_JL, "bitCount", "(J)I"⟩
abbrev k_JL_bitCount : Cond := .code y_JL_bitCount b_JL_bitCount 2 (some .int)
abbrev w_JL_bitCount : List Cond := k_JL_bitCount :: tblG
set_option maxRecDepth 100000 in
theorem mk_JL_bitCount : k_JL_bitCount ∈ tblG := mem_G (i := 436) rfl (by decide +kernel)
abbrev b_Board_strangerFits : ByteArray := prog_2_method_14_code
abbrev y_Board_strangerFits : MethodName := ⟨R_Board, "strangerFits", "(JII)Z"⟩
abbrev k_Board_strangerFits : Cond := .code y_Board_strangerFits b_Board_strangerFits 6 (some .boolean)
abbrev w_Board_strangerFits : List Cond := k_Board_strangerFits :: tblG
set_option maxRecDepth 100000 in
theorem mk_Board_strangerFits : k_Board_strangerFits ∈ tblG := mem_G (i := 443) rfl (by decide +kernel)
abbrev b_Search_goBack : ByteArray := prog_5_method_5_code
abbrev y_Search_goBack : MethodName := ⟨R_Search, "goBack", "()Z"⟩
abbrev k_Search_goBack : Cond := .code y_Search_goBack b_Search_goBack 1 (some .boolean)
abbrev w_Search_goBack : List Cond := k_Search_goBack :: tblG
set_option maxRecDepth 100000 in
theorem mk_Search_goBack : k_Search_goBack ∈ tblG := mem_G (i := 447) rfl (by decide +kernel)
abbrev b_Search_goOn : ByteArray := prog_5_method_4_code
abbrev y_Search_goOn : MethodName := ⟨R_Search, "goOn", "()Z"⟩
abbrev k_Search_goOn : Cond := .code y_Search_goOn b_Search_goOn 1 (some .boolean)
abbrev w_Search_goOn : List Cond := k_Search_goOn :: tblG
set_option maxRecDepth 100000 in
theorem mk_Search_goOn : k_Search_goOn ∈ tblG := mem_G (i := 451) rfl (by decide +kernel)
abbrev b_LW_cut : ByteArray := method_10_code
abbrev y_LW_cut : MethodName := ⟨R_LW, "cut", "(LMasterKeys;II[J)I"⟩
abbrev k_LW_cut : Cond := .codeWith y_LW_cut b_LW_cut 5 (some .int) [(0, 10, 13, 22)]
abbrev w_LW_cut : List Cond := k_LW_cut :: tblG
set_option maxRecDepth 100000 in
theorem mk_LW_cut : k_LW_cut ∈ tblG := mem_G (i := 454) rfl (by decide +kernel)
abbrev b_MK_cut : ByteArray := prog_1_method_10_code
abbrev y_MK_cut : MethodName := ⟨R_MK, "cut", "(II)I"⟩
abbrev k_MK_cut : Cond := .code y_MK_cut b_MK_cut 3 (some .int)
abbrev w_MK_cut : List Cond := k_MK_cut :: tblG
set_option maxRecDepth 100000 in
theorem mk_MK_cut : k_MK_cut ∈ tblG := mem_G (i := 458) rfl (by decide +kernel)
abbrev b_MK_needPin : ByteArray := prog_1_method_19_code
abbrev y_MK_needPin : MethodName := ⟨R_MK, "needPin", "(I)V"⟩
abbrev k_MK_needPin : Cond := .code y_MK_needPin b_MK_needPin 2 none
abbrev w_MK_needPin : List Cond := k_MK_needPin :: tblG
set_option maxRecDepth 100000 in
theorem mk_MK_needPin : k_MK_needPin ∈ tblG := mem_G (i := 462) rfl (by decide +kernel)
abbrev b_LW_holds : ByteArray := method_11_code
abbrev y_LW_holds : MethodName := ⟨R_LW, "holds", "(LMasterKeys;III[J)I"⟩
abbrev k_LW_holds : Cond := .codeWith y_LW_holds b_LW_holds 6 (some .int) [(0, 19, 22, 22)]
abbrev w_LW_holds : List Cond := k_LW_holds :: tblG
set_option maxRecDepth 100000 in
theorem mk_LW_holds : k_LW_holds ∈ tblG := mem_G (i := 466) rfl (by decide +kernel)
abbrev b_MK_holds : ByteArray := prog_1_method_11_code
abbrev y_MK_holds : MethodName := ⟨R_MK, "holds", "(III)Z"⟩
abbrev k_MK_holds : Cond := .code y_MK_holds b_MK_holds 4 (some .boolean)
abbrev w_MK_holds : List Cond := k_MK_holds :: tblG
set_option maxRecDepth 100000 in
theorem mk_MK_holds : k_MK_holds ∈ tblG := mem_G (i := 470) rfl (by decide +kernel)
abbrev b_Board_doorsHolding : ByteArray := prog_2_method_6_code
abbrev y_Board_doorsHolding : MethodName := ⟨R_Board, "doorsHolding", "(II)I"⟩
abbrev k_Board_doorsHolding : Cond := .code y_Board_doorsHolding b_Board_doorsHolding 3 (some .int)
abbrev w_Board_doorsHolding : List Cond := k_Board_doorsHolding :: tblG
set_option maxRecDepth 100000 in
theorem mk_Board_doorsHolding : k_Board_doorsHolding ∈ tblG := mem_G (i := 474) rfl (by decide +kernel)
abbrev b_LW_fits : ByteArray := method_12_code
abbrev y_LW_fits : MethodName := ⟨R_LW, "fits", "(LMasterKeys;II[J)I"⟩
abbrev k_LW_fits : Cond := .codeWith y_LW_fits b_LW_fits 5 (some .int) [(0, 17, 20, 22)]
abbrev w_LW_fits : List Cond := k_LW_fits :: tblG
set_option maxRecDepth 100000 in
theorem mk_LW_fits : k_LW_fits ∈ tblG := mem_G (i := 477) rfl (by decide +kernel)
abbrev b_MK_fits : ByteArray := prog_1_method_12_code
abbrev y_MK_fits : MethodName := ⟨R_MK, "fits", "(II)Z"⟩
abbrev k_MK_fits : Cond := .code y_MK_fits b_MK_fits 3 (some .boolean)
abbrev w_MK_fits : List Cond := k_MK_fits :: tblG
set_option maxRecDepth 100000 in
theorem mk_MK_fits : k_MK_fits ∈ tblG := mem_G (i := 481) rfl (by decide +kernel)
abbrev b_LW_left : ByteArray := method_13_code
abbrev y_LW_left : MethodName := ⟨R_LW, "left", "(LMasterKeys;[J)I"⟩
abbrev k_LW_left : Cond := .codeWith y_LW_left b_LW_left 3 (some .int) [(0, 8, 11, 13)]
abbrev w_LW_left : List Cond := k_LW_left :: tblG
set_option maxRecDepth 100000 in
theorem mk_LW_left : k_LW_left ∈ tblG := mem_G (i := 484) rfl (by decide +kernel)
abbrev b_MK_left : ByteArray := prog_1_method_14_code
abbrev y_MK_left : MethodName := ⟨R_MK, "left", "()I"⟩
abbrev k_MK_left : Cond := .code y_MK_left b_MK_left 1 (some .int)
abbrev w_MK_left : List Cond := k_MK_left :: tblG
set_option maxRecDepth 100000 in
theorem mk_MK_left : k_MK_left ∈ tblG := mem_G (i := 488) rfl (by decide +kernel)
abbrev b_MK_needPlan : ByteArray := prog_1_method_21_code
abbrev y_MK_needPlan : MethodName := ⟨R_MK, "needPlan", "()V"⟩
abbrev k_MK_needPlan : Cond := .code y_MK_needPlan b_MK_needPlan 1 none
abbrev w_MK_needPlan : List Cond := k_MK_needPlan :: tblG
set_option maxRecDepth 100000 in
theorem mk_MK_needPlan : k_MK_needPlan ∈ tblG := mem_G (i := 492) rfl (by decide +kernel)
abbrev b_Rows_countFree : ByteArray := prog_4_method_2_code
abbrev y_Rows_countFree : MethodName := ⟨R_Rows, "countFree", "(I)I"⟩
abbrev k_Rows_countFree : Cond := .code y_Rows_countFree b_Rows_countFree 4 (some .int)
abbrev w_Rows_countFree : List Cond := k_Rows_countFree :: tblG
set_option maxRecDepth 100000 in
theorem mk_Rows_countFree : k_Rows_countFree ∈ tblG := mem_G (i := 497) rfl (by decide +kernel)
abbrev b_Rows_countWays : ByteArray := prog_4_method_5_code
abbrev y_Rows_countWays : MethodName := ⟨R_Rows, "countWays", "(I)V"⟩
abbrev k_Rows_countWays : Cond := .code y_Rows_countWays b_Rows_countWays 5 none
abbrev w_Rows_countWays : List Cond := k_Rows_countWays :: tblG
set_option maxRecDepth 100000 in
theorem mk_Rows_countWays : k_Rows_countWays ∈ tblG := mem_G (i := 501) rfl (by decide +kernel)
abbrev b_Rows_state : ByteArray := prog_4_method_8_code
abbrev y_Rows_state : MethodName := ⟨R_Rows, "state", "(II)I"⟩
abbrev k_Rows_state : Cond := .code y_Rows_state b_Rows_state 2 (some .int)
abbrev w_Rows_state : List Cond := k_Rows_state :: tblG
set_option maxRecDepth 100000 in
theorem mk_Rows_state : k_Rows_state ∈ tblG := mem_G (i := 504) rfl (by decide +kernel)
abbrev b_Rows_countWaysBehind : ByteArray := prog_4_method_6_code
abbrev y_Rows_countWaysBehind : MethodName := ⟨R_Rows, "countWaysBehind", "(I)V"⟩
abbrev k_Rows_countWaysBehind : Cond := .code y_Rows_countWaysBehind b_Rows_countWaysBehind 5 none
abbrev w_Rows_countWaysBehind : List Cond := k_Rows_countWaysBehind :: tblG
set_option maxRecDepth 100000 in
theorem mk_Rows_countWaysBehind : k_Rows_countWaysBehind ∈ tblG := mem_G (i := 508) rfl (by decide +kernel)
abbrev b_Rows_addWays : ByteArray := prog_4_method_7_code
abbrev y_Rows_addWays : MethodName := ⟨R_Rows, "addWays", "(IIII)V"⟩
abbrev k_Rows_addWays : Cond := .code y_Rows_addWays b_Rows_addWays 6 none
abbrev w_Rows_addWays : List Cond := k_Rows_addWays :: tblG
set_option maxRecDepth 100000 in
theorem mk_Rows_addWays : k_Rows_addWays ∈ tblG := mem_G (i := 514) rfl (by decide +kernel)
abbrev b_Board_countKeys : ByteArray := prog_2_method_9_code
abbrev y_Board_countKeys : MethodName := ⟨R_Board, "countKeys", "(JI)I"⟩
abbrev k_Board_countKeys : Cond := .code y_Board_countKeys b_Board_countKeys 6 (some .int)
abbrev w_Board_countKeys : List Cond := k_Board_countKeys :: tblG
set_option maxRecDepth 100000 in
theorem mk_Board_countKeys : k_Board_countKeys ∈ tblG := mem_G (i := 518) rfl (by decide +kernel)
abbrev b_LW_add : ByteArray := method_14_code
abbrev y_LW_add : MethodName := ⟨R_LW, "add", "(LMasterKeys;I[J)I"⟩
abbrev k_LW_add : Cond := .codeWith y_LW_add b_LW_add 4 (some .int) [(0, 9, 12, 22), (0, 9, 15, 13)]
abbrev w_LW_add : List Cond := k_LW_add :: tblG
set_option maxRecDepth 100000 in
theorem mk_LW_add : k_LW_add ∈ tblG := mem_G (i := 522) rfl (by decide +kernel)
abbrev b_MK_add : ByteArray := prog_1_method_15_code
abbrev y_MK_add : MethodName := ⟨R_MK, "add", "(I)I"⟩
abbrev k_MK_add : Cond := .code y_MK_add b_MK_add 2 (some .int)
abbrev w_MK_add : List Cond := k_MK_add :: tblG
set_option maxRecDepth 100000 in
theorem mk_MK_add : k_MK_add ∈ tblG := mem_G (i := 526) rfl (by decide +kernel)
abbrev b_Board_allDoors : ByteArray := prog_2_method_3_code
abbrev y_Board_allDoors : MethodName := ⟨R_Board, "allDoors", "()I"⟩
abbrev k_Board_allDoors : Cond := .code y_Board_allDoors b_Board_allDoors 1 (some .int)
abbrev w_Board_allDoors : List Cond := k_Board_allDoors :: tblG
set_option maxRecDepth 100000 in
theorem mk_Board_allDoors : k_Board_allDoors ∈ tblG := mem_G (i := 530) rfl (by decide +kernel)
abbrev b_Rows_cutLeast : ByteArray := prog_4_method_3_code
abbrev y_Rows_cutLeast : MethodName := ⟨R_Rows, "cutLeast", "(I)Z"⟩
abbrev k_Rows_cutLeast : Cond := .code y_Rows_cutLeast b_Rows_cutLeast 9 (some .boolean)
abbrev w_Rows_cutLeast : List Cond := k_Rows_cutLeast :: tblG
set_option maxRecDepth 100000 in
theorem mk_Rows_cutLeast : k_Rows_cutLeast ∈ tblG := mem_G (i := 535) rfl (by decide +kernel)
abbrev b_Rows_leastDepth : ByteArray := prog_4_method_4_code
abbrev y_Rows_leastDepth : MethodName := ⟨R_Rows, "leastDepth", "(IIIJI)I"⟩
abbrev k_Rows_leastDepth : Cond := .code y_Rows_leastDepth b_Rows_leastDepth 10 (some .int)
abbrev w_Rows_leastDepth : List Cond := k_Rows_leastDepth :: tblG
set_option maxRecDepth 100000 in
theorem mk_Rows_leastDepth : k_Rows_leastDepth ∈ tblG := mem_G (i := 540) rfl (by decide +kernel)
abbrev b_Board_enter : ByteArray := prog_2_method_10_code
abbrev y_Board_enter : MethodName := ⟨R_Board, "enter", "(I)V"⟩
abbrev k_Board_enter : Cond := .code y_Board_enter b_Board_enter 4 none
abbrev w_Board_enter : List Cond := k_Board_enter :: tblG
set_option maxRecDepth 100000 in
theorem mk_Board_enter : k_Board_enter ∈ tblG := mem_G (i := 545) rfl (by decide +kernel)
abbrev b_LW_heirs : ByteArray := method_15_code
abbrev y_LW_heirs : MethodName := ⟨R_LW, "heirs", "(LMasterKeys;I[J)I"⟩
abbrev k_LW_heirs : Cond := .codeWith y_LW_heirs b_LW_heirs 4 (some .int) [(0, 9, 12, 22), (0, 9, 15, 13)]
abbrev w_LW_heirs : List Cond := k_LW_heirs :: tblG
set_option maxRecDepth 100000 in
theorem mk_LW_heirs : k_LW_heirs ∈ tblG := mem_G (i := 548) rfl (by decide +kernel)
abbrev b_MK_heirs : ByteArray := prog_1_method_16_code
abbrev y_MK_heirs : MethodName := ⟨R_MK, "heirs", "(I)I"⟩
abbrev k_MK_heirs : Cond := .code y_MK_heirs b_MK_heirs 5 (some .int)
abbrev w_MK_heirs : List Cond := k_MK_heirs :: tblG
set_option maxRecDepth 100000 in
theorem mk_MK_heirs : k_MK_heirs ∈ tblG := mem_G (i := 552) rfl (by decide +kernel)
abbrev b_RM_init : ByteArray := prog_7_method_1_code
abbrev y_RM_init : MethodName := ⟨R_RM, "<init>", "(II)V"⟩
abbrev k_RM_init : Cond := .code y_RM_init b_RM_init 3 none
abbrev w_RM_init : List Cond := k_RM_init :: tblG
set_option maxRecDepth 100000 in
theorem mk_RM_init : k_RM_init ∈ tblG := mem_G (i := 557) rfl (by decide +kernel)
abbrev b_RM_thrown : ByteArray := prog_7_method_2_code
abbrev y_RM_thrown : MethodName := ⟨R_RM, "thrown", "()I"⟩
abbrev k_RM_thrown : Cond := .code y_RM_thrown b_RM_thrown 1 (some .int)
abbrev w_RM_thrown : List Cond := k_RM_thrown :: tblG
set_option maxRecDepth 100000 in
theorem mk_RM_thrown : k_RM_thrown ∈ tblG := mem_G (i := 603) rfl (by decide +kernel)
abbrev b_RM_key : ByteArray := prog_7_method_8_code
abbrev y_RM_key : MethodName := ⟨R_RM, "key", "()I"⟩
abbrev k_RM_key : Cond := .code y_RM_key b_RM_key 2 (some .int)
abbrev w_RM_key : List Cond := k_RM_key :: tblG
set_option maxRecDepth 100000 in
theorem mk_RM_key : k_RM_key ∈ tblG := mem_G (i := 607) rfl (by decide +kernel)
abbrev b_RM_door : ByteArray := prog_7_method_9_code
abbrev y_RM_door : MethodName := ⟨R_RM, "door", "()I"⟩
abbrev k_RM_door : Cond := .code y_RM_door b_RM_door 1 (some .int)
abbrev w_RM_door : List Cond := k_RM_door :: tblG
set_option maxRecDepth 100000 in
theorem mk_RM_door : k_RM_door ∈ tblG := mem_G (i := 611) rfl (by decide +kernel)
abbrev b_RM_must : ByteArray := prog_7_method_10_code
abbrev y_RM_must : MethodName := ⟨R_RM, "must", "(IIZ)Z"⟩
abbrev k_RM_must : Cond := .code y_RM_must b_RM_must 5 (some .boolean)
abbrev w_RM_must : List Cond := k_RM_must :: tblG
set_option maxRecDepth 100000 in
theorem mk_RM_must : k_RM_must ∈ tblG := mem_G (i := 615) rfl (by decide +kernel)
abbrev b_RM_noKey : ByteArray := prog_7_method_4_code
abbrev y_RM_noKey : MethodName := ⟨R_RM, "noKey", "(I)Z"⟩
abbrev k_RM_noKey : Cond := .code y_RM_noKey b_RM_noKey 2 (some .boolean)
abbrev w_RM_noKey : List Cond := k_RM_noKey :: tblG
set_option maxRecDepth 100000 in
theorem mk_RM_noKey : k_RM_noKey ∈ tblG := mem_G (i := 619) rfl (by decide +kernel)
abbrev b_RM_noDoor : ByteArray := prog_7_method_5_code
abbrev y_RM_noDoor : MethodName := ⟨R_RM, "noDoor", "(I)Z"⟩
abbrev k_RM_noDoor : Cond := .code y_RM_noDoor b_RM_noDoor 2 (some .boolean)
abbrev w_RM_noDoor : List Cond := k_RM_noDoor :: tblG
set_option maxRecDepth 100000 in
theorem mk_RM_noDoor : k_RM_noDoor ∈ tblG := mem_G (i := 623) rfl (by decide +kernel)
abbrev b_RM_step : ByteArray := prog_7_method_11_code
abbrev y_RM_step : MethodName := ⟨R_RM, "step", "(I)I"⟩
abbrev k_RM_step : Cond := .code y_RM_step b_RM_step 3 (some .int)
abbrev w_RM_step : List Cond := k_RM_step :: tblG
set_option maxRecDepth 100000 in
theorem mk_RM_step : k_RM_step ∈ tblG := mem_G (i := 627) rfl (by decide +kernel)
abbrev b_RM_isIn : ByteArray := prog_7_method_3_code
abbrev y_RM_isIn : MethodName := ⟨R_RM, "isIn", "(III)Z"⟩
abbrev k_RM_isIn : Cond := .code y_RM_isIn b_RM_isIn 3 (some .boolean)
abbrev w_RM_isIn : List Cond := k_RM_isIn :: tblG
set_option maxRecDepth 100000 in
theorem mk_RM_isIn : k_RM_isIn ∈ tblG := mem_G (i := 630) rfl (by decide +kernel)
abbrev b_RM_bar : ByteArray := prog_7_method_12_code
abbrev y_RM_bar : MethodName := ⟨R_RM, "bar", "(IIZ)Z"⟩
abbrev k_RM_bar : Cond := .code y_RM_bar b_RM_bar 5 (some .boolean)
abbrev w_RM_bar : List Cond := k_RM_bar :: tblG
set_option maxRecDepth 100000 in
theorem mk_RM_bar : k_RM_bar ∈ tblG := mem_G (i := 634) rfl (by decide +kernel)
abbrev b_RM_noDepth : ByteArray := prog_7_method_7_code
abbrev y_RM_noDepth : MethodName := ⟨R_RM, "noDepth", "(I)Z"⟩
abbrev k_RM_noDepth : Cond := .code y_RM_noDepth b_RM_noDepth 2 (some .boolean)
abbrev w_RM_noDepth : List Cond := k_RM_noDepth :: tblG
set_option maxRecDepth 100000 in
theorem mk_RM_noDepth : k_RM_noDepth ∈ tblG := mem_G (i := 638) rfl (by decide +kernel)
abbrev b_RM_top : ByteArray := prog_7_method_13_code
abbrev y_RM_top : MethodName := ⟨R_RM, "top", "(I)I"⟩
abbrev k_RM_top : Cond := .code y_RM_top b_RM_top 3 (some .int)
abbrev w_RM_top : List Cond := k_RM_top :: tblG
set_option maxRecDepth 100000 in
theorem mk_RM_top : k_RM_top ∈ tblG := mem_G (i := 642) rfl (by decide +kernel)
abbrev b_RM_run : ByteArray := prog_7_method_19_code
abbrev y_RM_run : MethodName := ⟨R_RM, "run", "(I)I"⟩
abbrev k_RM_run : Cond := .code y_RM_run b_RM_run 4 (some .int)
abbrev w_RM_run : List Cond := k_RM_run :: tblG
set_option maxRecDepth 100000 in
theorem mk_RM_run : k_RM_run ∈ tblG := mem_G (i := 646) rfl (by decide +kernel)
abbrev b_RM_mayStand : ByteArray := prog_7_method_14_code
abbrev y_RM_mayStand : MethodName := ⟨R_RM, "mayStand", "(II)Z"⟩
abbrev k_RM_mayStand : Cond := .code y_RM_mayStand b_RM_mayStand 4 (some .boolean)
abbrev w_RM_mayStand : List Cond := k_RM_mayStand :: tblG
set_option maxRecDepth 100000 in
theorem mk_RM_mayStand : k_RM_mayStand ∈ tblG := mem_G (i := 651) rfl (by decide +kernel)
abbrev b_RM_areGood : ByteArray := prog_7_method_18_code
abbrev y_RM_areGood : MethodName := ⟨R_RM, "areGood", "(I)Z"⟩
abbrev k_RM_areGood : Cond := .code y_RM_areGood b_RM_areGood 6 (some .boolean)
abbrev w_RM_areGood : List Cond := k_RM_areGood :: tblG
set_option maxRecDepth 100000 in
theorem mk_RM_areGood : k_RM_areGood ∈ tblG := mem_G (i := 655) rfl (by decide +kernel)
abbrev b_RM_isAlike : ByteArray := prog_7_method_17_code
abbrev y_RM_isAlike : MethodName := ⟨R_RM, "isAlike", "(II)Z"⟩
abbrev k_RM_isAlike : Cond := .code y_RM_isAlike b_RM_isAlike 5 (some .boolean)
abbrev w_RM_isAlike : List Cond := k_RM_isAlike :: tblG
set_option maxRecDepth 100000 in
theorem mk_RM_isAlike : k_RM_isAlike ∈ tblG := mem_G (i := 659) rfl (by decide +kernel)
abbrev b_RM_isHeld : ByteArray := prog_7_method_15_code
abbrev y_RM_isHeld : MethodName := ⟨R_RM, "isHeld", "(IIII)Z"⟩
abbrev k_RM_isHeld : Cond := .code y_RM_isHeld b_RM_isHeld 7 (some .boolean)
abbrev w_RM_isHeld : List Cond := k_RM_isHeld :: tblG
set_option maxRecDepth 100000 in
theorem mk_RM_isHeld : k_RM_isHeld ∈ tblG := mem_G (i := 663) rfl (by decide +kernel)
abbrev b_RM_isFitting : ByteArray := prog_7_method_16_code
abbrev y_RM_isFitting : MethodName := ⟨R_RM, "isFitting", "(III)Z"⟩
abbrev k_RM_isFitting : Cond := .code y_RM_isFitting b_RM_isFitting 6 (some .boolean)
abbrev w_RM_isFitting : List Cond := k_RM_isFitting :: tblG
set_option maxRecDepth 100000 in
theorem mk_RM_isFitting : k_RM_isFitting ∈ tblG := mem_G (i := 667) rfl (by decide +kernel)
abbrev b_RM_tries : ByteArray := prog_7_method_20_code
abbrev y_RM_tries : MethodName := ⟨R_RM, "tries", "()I"⟩
abbrev k_RM_tries : Cond := .code y_RM_tries b_RM_tries 1 (some .int)
abbrev w_RM_tries : List Cond := k_RM_tries :: tblG
set_option maxRecDepth 100000 in
theorem mk_RM_tries : k_RM_tries ∈ tblG := mem_G (i := 671) rfl (by decide +kernel)
abbrev b_RM_cut : ByteArray := prog_7_method_21_code
abbrev y_RM_cut : MethodName := ⟨R_RM, "cut", "(II)I"⟩
abbrev k_RM_cut : Cond := .code y_RM_cut b_RM_cut 3 (some .int)
abbrev w_RM_cut : List Cond := k_RM_cut :: tblG
set_option maxRecDepth 100000 in
theorem mk_RM_cut : k_RM_cut ∈ tblG := mem_G (i := 675) rfl (by decide +kernel)
abbrev b_RM_noPin : ByteArray := prog_7_method_6_code
abbrev y_RM_noPin : MethodName := ⟨R_RM, "noPin", "(I)Z"⟩
abbrev k_RM_noPin : Cond := .code y_RM_noPin b_RM_noPin 2 (some .boolean)
abbrev w_RM_noPin : List Cond := k_RM_noPin :: tblG
set_option maxRecDepth 100000 in
theorem mk_RM_noPin : k_RM_noPin ∈ tblG := mem_G (i := 679) rfl (by decide +kernel)
abbrev b_RM_holds : ByteArray := prog_7_method_22_code
abbrev y_RM_holds : MethodName := ⟨R_RM, "holds", "(III)Z"⟩
abbrev k_RM_holds : Cond := .code y_RM_holds b_RM_holds 4 (some .boolean)
abbrev w_RM_holds : List Cond := k_RM_holds :: tblG
set_option maxRecDepth 100000 in
theorem mk_RM_holds : k_RM_holds ∈ tblG := mem_G (i := 683) rfl (by decide +kernel)
abbrev b_RM_fits : ByteArray := prog_7_method_23_code
abbrev y_RM_fits : MethodName := ⟨R_RM, "fits", "(II)Z"⟩
abbrev k_RM_fits : Cond := .code y_RM_fits b_RM_fits 3 (some .boolean)
abbrev w_RM_fits : List Cond := k_RM_fits :: tblG
set_option maxRecDepth 100000 in
theorem mk_RM_fits : k_RM_fits ∈ tblG := mem_G (i := 687) rfl (by decide +kernel)
abbrev b_RM_wrong : ByteArray := prog_7_method_24_code
abbrev y_RM_wrong : MethodName := ⟨R_RM, "wrong", "()I"⟩
abbrev k_RM_wrong : Cond := .code y_RM_wrong b_RM_wrong 4 (some .int)
abbrev w_RM_wrong : List Cond := k_RM_wrong :: tblG
set_option maxRecDepth 100000 in
theorem mk_RM_wrong : k_RM_wrong ∈ tblG := mem_G (i := 691) rfl (by decide +kernel)
abbrev b_RM_left : ByteArray := prog_7_method_28_code
abbrev y_RM_left : MethodName := ⟨R_RM, "left", "()I"⟩
abbrev k_RM_left : Cond := .code y_RM_left b_RM_left 3 (some .int)
abbrev w_RM_left : List Cond := k_RM_left :: tblG
set_option maxRecDepth 100000 in
theorem mk_RM_left : k_RM_left ∈ tblG := mem_G (i := 695) rfl (by decide +kernel)
abbrev b_RM_rows : ByteArray := prog_7_method_27_code
abbrev y_RM_rows : MethodName := ⟨R_RM, "rows", "()I"⟩
abbrev k_RM_rows : Cond := .code y_RM_rows b_RM_rows 3 (some .int)
abbrev w_RM_rows : List Cond := k_RM_rows :: tblG
set_option maxRecDepth 100000 in
theorem mk_RM_rows : k_RM_rows ∈ tblG := mem_G (i := 699) rfl (by decide +kernel)
abbrev b_RM_isFree : ByteArray := prog_7_method_25_code
abbrev y_RM_isFree : MethodName := ⟨R_RM, "isFree", "(I)Z"⟩
abbrev k_RM_isFree : Cond := .code y_RM_isFree b_RM_isFree 7 (some .boolean)
abbrev w_RM_isFree : List Cond := k_RM_isFree :: tblG
set_option maxRecDepth 100000 in
theorem mk_RM_isFree : k_RM_isFree ∈ tblG := mem_G (i := 703) rfl (by decide +kernel)
abbrev b_RM_doorsOfRow : ByteArray := prog_7_method_26_code
abbrev y_RM_doorsOfRow : MethodName := ⟨R_RM, "doorsOfRow", "()I"⟩
abbrev k_RM_doorsOfRow : Cond := .code y_RM_doorsOfRow b_RM_doorsOfRow 5 (some .int)
abbrev w_RM_doorsOfRow : List Cond := k_RM_doorsOfRow :: tblG
set_option maxRecDepth 100000 in
theorem mk_RM_doorsOfRow : k_RM_doorsOfRow ∈ tblG := mem_G (i := 707) rfl (by decide +kernel)
abbrev b_RM_add : ByteArray := prog_7_method_29_code
abbrev y_RM_add : MethodName := ⟨R_RM, "add", "(I)I"⟩
abbrev k_RM_add : Cond := .code y_RM_add b_RM_add 5 (some .int)
abbrev w_RM_add : List Cond := k_RM_add :: tblG
set_option maxRecDepth 100000 in
theorem mk_RM_add : k_RM_add ∈ tblG := mem_G (i := 711) rfl (by decide +kernel)
abbrev b_RM_heirs : ByteArray := prog_7_method_30_code
abbrev y_RM_heirs : MethodName := ⟨R_RM, "heirs", "(I)I"⟩
abbrev k_RM_heirs : Cond := .code y_RM_heirs b_RM_heirs 6 (some .int)
abbrev w_RM_heirs : List Cond := k_RM_heirs :: tblG
set_option maxRecDepth 100000 in
theorem mk_RM_heirs : k_RM_heirs ∈ tblG := mem_G (i := 715) rfl (by decide +kernel)
theorem mM_LW_64 : Cond.methodLink R_LW 64 y_MK_init ∈ tblG := mem_G (i := 48) (by decide +kernel) (by decide +kernel)
theorem mM_MK_3 : Cond.methodLink R_MK 3 objectInit ∈ tblG := mem_G (i := 51) (by decide +kernel) (by decide +kernel)
theorem mM_MK_11 : Cond.methodLink R_MK 11 ⟨"java/lang/Math", "min", "(II)I"⟩ ∈ tblG := mem_G (i := 56) (by decide +kernel) (by decide +kernel)
theorem mM_MK_17 : Cond.methodLink R_MK 17 ⟨"java/lang/Math", "max", "(II)I"⟩ ∈ tblG := mem_G (i := 59) (by decide +kernel) (by decide +kernel)
theorem mM_MK_20 : Cond.methodLink R_MK 20 y_Law_init ∈ tblG := mem_G (i := 62) (by decide +kernel) (by decide +kernel)
theorem mM_Law_3 : Cond.methodLink R_Law 3 objectInit ∈ tblG := mem_G (i := 65) (by decide +kernel) (by decide +kernel)
theorem mM_MK_29 : Cond.methodLink R_MK 29 y_Board_init ∈ tblG := mem_G (i := 94) (by decide +kernel) (by decide +kernel)
theorem mM_Board_3 : Cond.methodLink R_Board 3 objectInit ∈ tblG := mem_G (i := 97) (by decide +kernel) (by decide +kernel)
theorem mM_MK_38 : Cond.methodLink R_MK 38 y_Search_init ∈ tblG := mem_G (i := 136) (by decide +kernel) (by decide +kernel)
theorem mM_Search_3 : Cond.methodLink R_Search 3 objectInit ∈ tblG := mem_G (i := 139) (by decide +kernel) (by decide +kernel)
theorem mM_MK_47 : Cond.methodLink R_MK 47 y_Rows_init ∈ tblG := mem_G (i := 159) (by decide +kernel) (by decide +kernel)
theorem mM_Rows_3 : Cond.methodLink R_Rows 3 objectInit ∈ tblG := mem_G (i := 162) (by decide +kernel) (by decide +kernel)
theorem mM_LW_97 : Cond.methodLink R_LW 97 y_MK_tries ∈ tblG := mem_G (i := 190) (by decide +kernel) (by decide +kernel)
theorem mM_LW_112 : Cond.methodLink R_LW 112 y_MK_wrong ∈ tblG := mem_G (i := 194) (by decide +kernel) (by decide +kernel)
theorem mM_MK_131 : Cond.methodLink R_MK 131 y_Board_doorsOf ∈ tblG := mem_G (i := 198) (by decide +kernel) (by decide +kernel)
theorem mM_Board_41 : Cond.methodLink R_Board 41 y_Board_doorsFitted ∈ tblG := mem_G (i := 202) (by decide +kernel) (by decide +kernel)
theorem mM_Board_48 : Cond.methodLink R_Board 48 y_Board_isWithin ∈ tblG := mem_G (i := 206) (by decide +kernel) (by decide +kernel)
theorem mM_MK_138 : Cond.methodLink R_MK 138 y_JI_bitCount ∈ tblG := mem_G (i := 210) (by decide +kernel) (by decide +kernel)
theorem mM_LW_58 : Cond.methodLink R_LW 58 y_LW_cell ∈ tblG := mem_G (i := 216) (by decide +kernel) (by decide +kernel)
theorem mM_LW_70 : Cond.methodLink R_LW 70 y_LW_key ∈ tblG := mem_G (i := 219) (by decide +kernel) (by decide +kernel)
theorem mM_LW_7 : Cond.methodLink R_LW 7 y_MK_key ∈ tblG := mem_G (i := 223) (by decide +kernel) (by decide +kernel)
theorem mM_LW_77 : Cond.methodLink R_LW 77 y_LW_door ∈ tblG := mem_G (i := 294) (by decide +kernel) (by decide +kernel)
theorem mM_LW_15 : Cond.methodLink R_LW 15 y_MK_door ∈ tblG := mem_G (i := 297) (by decide +kernel) (by decide +kernel)
theorem mM_LW_80 : Cond.methodLink R_LW 80 y_LW_must ∈ tblG := mem_G (i := 302) (by decide +kernel) (by decide +kernel)
theorem mM_LW_18 : Cond.methodLink R_LW 18 y_MK_must ∈ tblG := mem_G (i := 306) (by decide +kernel) (by decide +kernel)
theorem mM_MK_72 : Cond.methodLink R_MK 72 y_MK_needKey ∈ tblG := mem_G (i := 310) (by decide +kernel) (by decide +kernel)
theorem mM_MK_76 : Cond.methodLink R_MK 76 y_MK_needDoor ∈ tblG := mem_G (i := 330) (by decide +kernel) (by decide +kernel)
theorem mM_MK_79 : Cond.methodLink R_MK 79 y_Board_mustOpen ∈ tblG := mem_G (i := 335) (by decide +kernel) (by decide +kernel)
theorem mM_MK_83 : Cond.methodLink R_MK 83 y_Board_tell ∈ tblG := mem_G (i := 339) (by decide +kernel) (by decide +kernel)
theorem mM_LW_84 : Cond.methodLink R_LW 84 y_LW_step ∈ tblG := mem_G (i := 343) (by decide +kernel) (by decide +kernel)
theorem mM_LW_24 : Cond.methodLink R_LW 24 y_MK_step ∈ tblG := mem_G (i := 346) (by decide +kernel) (by decide +kernel)
theorem mM_LW_88 : Cond.methodLink R_LW 88 y_LW_bar ∈ tblG := mem_G (i := 351) (by decide +kernel) (by decide +kernel)
theorem mM_LW_28 : Cond.methodLink R_LW 28 y_MK_bar ∈ tblG := mem_G (i := 354) (by decide +kernel) (by decide +kernel)
theorem mM_MK_95 : Cond.methodLink R_MK 95 y_MK_needDepth ∈ tblG := mem_G (i := 358) (by decide +kernel) (by decide +kernel)
theorem mM_MK_98 : Cond.methodLink R_MK 98 y_Law_isBarred ∈ tblG := mem_G (i := 363) (by decide +kernel) (by decide +kernel)
theorem mM_Law_28 : Cond.methodLink R_Law 28 y_Law_pairBit ∈ tblG := mem_G (i := 367) (by decide +kernel) (by decide +kernel)
theorem mM_MK_101 : Cond.methodLink R_MK 101 y_Law_setBarred ∈ tblG := mem_G (i := 370) (by decide +kernel) (by decide +kernel)
theorem mM_LW_91 : Cond.methodLink R_LW 91 y_LW_top ∈ tblG := mem_G (i := 375) (by decide +kernel) (by decide +kernel)
theorem mM_LW_31 : Cond.methodLink R_LW 31 y_MK_top ∈ tblG := mem_G (i := 378) (by decide +kernel) (by decide +kernel)
theorem mM_LW_94 : Cond.methodLink R_LW 94 y_LW_run ∈ tblG := mem_G (i := 383) (by decide +kernel) (by decide +kernel)
theorem mM_LW_34 : Cond.methodLink R_LW 34 y_MK_run ∈ tblG := mem_G (i := 386) (by decide +kernel) (by decide +kernel)
theorem mM_MK_114 : Cond.methodLink R_MK 114 y_Search_look ∈ tblG := mem_G (i := 393) (by decide +kernel) (by decide +kernel)
theorem mM_Search_35 : Cond.methodLink R_Search 35 y_Search_stands ∈ tblG := mem_G (i := 397) (by decide +kernel) (by decide +kernel)
theorem mM_Search_45 : Cond.methodLink R_Search 45 y_Law_mayFollow ∈ tblG := mem_G (i := 401) (by decide +kernel) (by decide +kernel)
theorem mM_Law_34 : Cond.methodLink R_Law 34 ⟨"java/lang/Math", "abs", "(I)I"⟩ ∈ tblG := mem_G (i := 405) (by decide +kernel) (by decide +kernel)
theorem mM_Law_40 : Cond.methodLink R_Law 40 y_Law_isBarred ∈ tblG := mem_G (i := 408) (by decide +kernel) (by decide +kernel)
theorem mM_Search_54 : Cond.methodLink R_Search 54 y_Board_accepts ∈ tblG := mem_G (i := 409) (by decide +kernel) (by decide +kernel)
theorem mM_Board_56 : Cond.methodLink R_Board 56 y_Board_rowFromCuts ∈ tblG := mem_G (i := 413) (by decide +kernel) (by decide +kernel)
theorem mM_Board_37 : Cond.methodLink R_Board 37 y_Board_bit ∈ tblG := mem_G (i := 417) (by decide +kernel) (by decide +kernel)
theorem mM_Board_60 : Cond.methodLink R_Board 60 y_Board_isTaken ∈ tblG := mem_G (i := 420) (by decide +kernel) (by decide +kernel)
theorem mM_Board_64 : Cond.methodLink R_Board 64 y_Board_doorAccepts ∈ tblG := mem_G (i := 424) (by decide +kernel) (by decide +kernel)
theorem mM_Board_68 : Cond.methodLink R_Board 68 y_Board_mustOpen ∈ tblG := mem_G (i := 428) (by decide +kernel) (by decide +kernel)
theorem mM_Board_71 : Cond.methodLink R_Board 71 y_Board_isAboveTop ∈ tblG := mem_G (i := 429) (by decide +kernel) (by decide +kernel)
theorem mM_Board_86 : Cond.methodLink R_Board 86 y_JL_bitCount ∈ tblG := mem_G (i := 434) (by decide +kernel) (by decide +kernel)
theorem mM_Board_75 : Cond.methodLink R_Board 75 y_Board_strangerFits ∈ tblG := mem_G (i := 440) (by decide +kernel) (by decide +kernel)
theorem mM_Search_39 : Cond.methodLink R_Search 39 y_Search_goBack ∈ tblG := mem_G (i := 444) (by decide +kernel) (by decide +kernel)
theorem mM_Search_42 : Cond.methodLink R_Search 42 y_Search_goOn ∈ tblG := mem_G (i := 448) (by decide +kernel) (by decide +kernel)
theorem mM_LW_101 : Cond.methodLink R_LW 101 y_LW_cut ∈ tblG := mem_G (i := 452) (by decide +kernel) (by decide +kernel)
theorem mM_LW_37 : Cond.methodLink R_LW 37 y_MK_cut ∈ tblG := mem_G (i := 455) (by decide +kernel) (by decide +kernel)
theorem mM_MK_121 : Cond.methodLink R_MK 121 y_MK_needPin ∈ tblG := mem_G (i := 459) (by decide +kernel) (by decide +kernel)
theorem mM_LW_105 : Cond.methodLink R_LW 105 y_LW_holds ∈ tblG := mem_G (i := 464) (by decide +kernel) (by decide +kernel)
theorem mM_LW_41 : Cond.methodLink R_LW 41 y_MK_holds ∈ tblG := mem_G (i := 467) (by decide +kernel) (by decide +kernel)
theorem mM_MK_128 : Cond.methodLink R_MK 128 y_Board_doorsHolding ∈ tblG := mem_G (i := 471) (by decide +kernel) (by decide +kernel)
theorem mM_LW_109 : Cond.methodLink R_LW 109 y_LW_fits ∈ tblG := mem_G (i := 475) (by decide +kernel) (by decide +kernel)
theorem mM_LW_45 : Cond.methodLink R_LW 45 y_MK_fits ∈ tblG := mem_G (i := 478) (by decide +kernel) (by decide +kernel)
theorem mM_LW_116 : Cond.methodLink R_LW 116 y_LW_left ∈ tblG := mem_G (i := 482) (by decide +kernel) (by decide +kernel)
theorem mM_LW_49 : Cond.methodLink R_LW 49 y_MK_left ∈ tblG := mem_G (i := 485) (by decide +kernel) (by decide +kernel)
theorem mM_MK_143 : Cond.methodLink R_MK 143 y_MK_needPlan ∈ tblG := mem_G (i := 489) (by decide +kernel) (by decide +kernel)
theorem mM_MK_146 : Cond.methodLink R_MK 146 y_Rows_countFree ∈ tblG := mem_G (i := 494) (by decide +kernel) (by decide +kernel)
theorem mM_Rows_24 : Cond.methodLink R_Rows 24 y_Rows_countWays ∈ tblG := mem_G (i := 498) (by decide +kernel) (by decide +kernel)
theorem mM_Rows_40 : Cond.methodLink R_Rows 40 y_Rows_state ∈ tblG := mem_G (i := 502) (by decide +kernel) (by decide +kernel)
theorem mM_Rows_72 : Cond.methodLink R_Rows 72 y_Rows_countWaysBehind ∈ tblG := mem_G (i := 505) (by decide +kernel) (by decide +kernel)
theorem mM_Rows_34 : Cond.methodLink R_Rows 34 y_Board_doorsHolding ∈ tblG := mem_G (i := 509) (by decide +kernel) (by decide +kernel)
theorem mM_Rows_68 : Cond.methodLink R_Rows 68 y_Law_mayFollow ∈ tblG := mem_G (i := 510) (by decide +kernel) (by decide +kernel)
theorem mM_Rows_75 : Cond.methodLink R_Rows 75 y_Rows_addWays ∈ tblG := mem_G (i := 511) (by decide +kernel) (by decide +kernel)
theorem mM_Rows_43 : Cond.methodLink R_Rows 43 y_Board_countKeys ∈ tblG := mem_G (i := 515) (by decide +kernel) (by decide +kernel)
theorem mM_Board_52 : Cond.methodLink R_Board 52 y_Board_doorsOf ∈ tblG := mem_G (i := 519) (by decide +kernel) (by decide +kernel)
theorem mM_LW_119 : Cond.methodLink R_LW 119 y_LW_add ∈ tblG := mem_G (i := 520) (by decide +kernel) (by decide +kernel)
theorem mM_LW_52 : Cond.methodLink R_LW 52 y_MK_add ∈ tblG := mem_G (i := 523) (by decide +kernel) (by decide +kernel)
theorem mM_MK_149 : Cond.methodLink R_MK 149 y_Board_allDoors ∈ tblG := mem_G (i := 527) (by decide +kernel) (by decide +kernel)
theorem mM_MK_155 : Cond.methodLink R_MK 155 y_Rows_cutLeast ∈ tblG := mem_G (i := 532) (by decide +kernel) (by decide +kernel)
theorem mM_Rows_53 : Cond.methodLink R_Rows 53 y_Board_allDoors ∈ tblG := mem_G (i := 536) (by decide +kernel) (by decide +kernel)
theorem mM_Rows_60 : Cond.methodLink R_Rows 60 y_Rows_leastDepth ∈ tblG := mem_G (i := 537) (by decide +kernel) (by decide +kernel)
theorem mM_Rows_64 : Cond.methodLink R_Rows 64 y_Board_bit ∈ tblG := mem_G (i := 541) (by decide +kernel) (by decide +kernel)
theorem mM_MK_159 : Cond.methodLink R_MK 159 y_Board_enter ∈ tblG := mem_G (i := 542) (by decide +kernel) (by decide +kernel)
theorem mM_LW_122 : Cond.methodLink R_LW 122 y_LW_heirs ∈ tblG := mem_G (i := 546) (by decide +kernel) (by decide +kernel)
theorem mM_LW_55 : Cond.methodLink R_LW 55 y_MK_heirs ∈ tblG := mem_G (i := 549) (by decide +kernel) (by decide +kernel)
theorem mM_LW_69 : Cond.methodLink R_LW 69 y_RM_init ∈ tblG := mem_G (i := 555) (by decide +kernel) (by decide +kernel)
theorem mM_RM_1 : Cond.methodLink R_RM 1 objectInit ∈ tblG := mem_G (i := 558) (by decide +kernel) (by decide +kernel)
theorem mM_LW_74 : Cond.methodLink R_LW 74 y_RM_thrown ∈ tblG := mem_G (i := 600) (by decide +kernel) (by decide +kernel)
theorem mM_LW_73 : Cond.methodLink R_LW 73 y_RM_key ∈ tblG := mem_G (i := 604) (by decide +kernel) (by decide +kernel)
theorem mM_LW_79 : Cond.methodLink R_LW 79 y_RM_door ∈ tblG := mem_G (i := 608) (by decide +kernel) (by decide +kernel)
theorem mM_LW_83 : Cond.methodLink R_LW 83 y_RM_must ∈ tblG := mem_G (i := 612) (by decide +kernel) (by decide +kernel)
theorem mM_RM_49 : Cond.methodLink R_RM 49 y_RM_noKey ∈ tblG := mem_G (i := 616) (by decide +kernel) (by decide +kernel)
theorem mM_RM_53 : Cond.methodLink R_RM 53 y_RM_noDoor ∈ tblG := mem_G (i := 620) (by decide +kernel) (by decide +kernel)
theorem mM_LW_87 : Cond.methodLink R_LW 87 y_RM_step ∈ tblG := mem_G (i := 624) (by decide +kernel) (by decide +kernel)
theorem mM_RM_56 : Cond.methodLink R_RM 56 y_RM_isIn ∈ tblG := mem_G (i := 628) (by decide +kernel) (by decide +kernel)
theorem mM_LW_90 : Cond.methodLink R_LW 90 y_RM_bar ∈ tblG := mem_G (i := 631) (by decide +kernel) (by decide +kernel)
theorem mM_RM_60 : Cond.methodLink R_RM 60 y_RM_noDepth ∈ tblG := mem_G (i := 635) (by decide +kernel) (by decide +kernel)
theorem mM_LW_93 : Cond.methodLink R_LW 93 y_RM_top ∈ tblG := mem_G (i := 639) (by decide +kernel) (by decide +kernel)
theorem mM_LW_96 : Cond.methodLink R_LW 96 y_RM_run ∈ tblG := mem_G (i := 643) (by decide +kernel) (by decide +kernel)
theorem mM_RM_78 : Cond.methodLink R_RM 78 y_RM_mayStand ∈ tblG := mem_G (i := 648) (by decide +kernel) (by decide +kernel)
theorem mM_RM_81 : Cond.methodLink R_RM 81 y_RM_areGood ∈ tblG := mem_G (i := 652) (by decide +kernel) (by decide +kernel)
theorem mM_RM_67 : Cond.methodLink R_RM 67 y_RM_isAlike ∈ tblG := mem_G (i := 656) (by decide +kernel) (by decide +kernel)
theorem mM_RM_63 : Cond.methodLink R_RM 63 y_RM_isHeld ∈ tblG := mem_G (i := 660) (by decide +kernel) (by decide +kernel)
theorem mM_RM_71 : Cond.methodLink R_RM 71 y_RM_isFitting ∈ tblG := mem_G (i := 664) (by decide +kernel) (by decide +kernel)
theorem mM_LW_100 : Cond.methodLink R_LW 100 y_RM_tries ∈ tblG := mem_G (i := 668) (by decide +kernel) (by decide +kernel)
theorem mM_LW_104 : Cond.methodLink R_LW 104 y_RM_cut ∈ tblG := mem_G (i := 672) (by decide +kernel) (by decide +kernel)
theorem mM_RM_84 : Cond.methodLink R_RM 84 y_RM_noPin ∈ tblG := mem_G (i := 676) (by decide +kernel) (by decide +kernel)
theorem mM_LW_108 : Cond.methodLink R_LW 108 y_RM_holds ∈ tblG := mem_G (i := 680) (by decide +kernel) (by decide +kernel)
theorem mM_LW_111 : Cond.methodLink R_LW 111 y_RM_fits ∈ tblG := mem_G (i := 684) (by decide +kernel) (by decide +kernel)
theorem mM_LW_115 : Cond.methodLink R_LW 115 y_RM_wrong ∈ tblG := mem_G (i := 688) (by decide +kernel) (by decide +kernel)
theorem mM_LW_118 : Cond.methodLink R_LW 118 y_RM_left ∈ tblG := mem_G (i := 692) (by decide +kernel) (by decide +kernel)
theorem mM_RM_87 : Cond.methodLink R_RM 87 y_RM_rows ∈ tblG := mem_G (i := 696) (by decide +kernel) (by decide +kernel)
theorem mM_RM_91 : Cond.methodLink R_RM 91 y_RM_isFree ∈ tblG := mem_G (i := 700) (by decide +kernel) (by decide +kernel)
theorem mM_RM_94 : Cond.methodLink R_RM 94 y_RM_doorsOfRow ∈ tblG := mem_G (i := 704) (by decide +kernel) (by decide +kernel)
theorem mM_LW_121 : Cond.methodLink R_LW 121 y_RM_add ∈ tblG := mem_G (i := 708) (by decide +kernel) (by decide +kernel)
theorem mM_LW_124 : Cond.methodLink R_LW 124 y_RM_heirs ∈ tblG := mem_G (i := 712) (by decide +kernel) (by decide +kernel)
theorem mI_MK_init : Cond.instanceMethod y_MK_init ∈ tblG := mem_G (i := 49) (by decide +kernel) (by decide +kernel)
theorem mI_Obj_init : Cond.instanceMethod objectInit ∈ tblG := mem_G (i := 52) (by decide +kernel) (by decide +kernel)
theorem mI_Law_init : Cond.instanceMethod y_Law_init ∈ tblG := mem_G (i := 63) (by decide +kernel) (by decide +kernel)
theorem mI_Board_init : Cond.instanceMethod y_Board_init ∈ tblG := mem_G (i := 95) (by decide +kernel) (by decide +kernel)
theorem mI_Search_init : Cond.instanceMethod y_Search_init ∈ tblG := mem_G (i := 137) (by decide +kernel) (by decide +kernel)
theorem mI_Rows_init : Cond.instanceMethod y_Rows_init ∈ tblG := mem_G (i := 160) (by decide +kernel) (by decide +kernel)
theorem mI_MK_tries : Cond.instanceMethod y_MK_tries ∈ tblG := mem_G (i := 191) (by decide +kernel) (by decide +kernel)
theorem mI_MK_wrong : Cond.instanceMethod y_MK_wrong ∈ tblG := mem_G (i := 195) (by decide +kernel) (by decide +kernel)
theorem mI_Board_doorsOf : Cond.instanceMethod y_Board_doorsOf ∈ tblG := mem_G (i := 199) (by decide +kernel) (by decide +kernel)
theorem mI_Board_doorsFitted : Cond.instanceMethod y_Board_doorsFitted ∈ tblG := mem_G (i := 204) (by decide +kernel) (by decide +kernel)
theorem mI_MK_key : Cond.instanceMethod y_MK_key ∈ tblG := mem_G (i := 224) (by decide +kernel) (by decide +kernel)
theorem mI_MK_door : Cond.instanceMethod y_MK_door ∈ tblG := mem_G (i := 298) (by decide +kernel) (by decide +kernel)
theorem mI_MK_must : Cond.instanceMethod y_MK_must ∈ tblG := mem_G (i := 307) (by decide +kernel) (by decide +kernel)
theorem mI_MK_needKey : Cond.instanceMethod y_MK_needKey ∈ tblG := mem_G (i := 312) (by decide +kernel) (by decide +kernel)
theorem mI_MK_needDoor : Cond.instanceMethod y_MK_needDoor ∈ tblG := mem_G (i := 332) (by decide +kernel) (by decide +kernel)
theorem mI_Board_mustOpen : Cond.instanceMethod y_Board_mustOpen ∈ tblG := mem_G (i := 336) (by decide +kernel) (by decide +kernel)
theorem mI_Board_tell : Cond.instanceMethod y_Board_tell ∈ tblG := mem_G (i := 340) (by decide +kernel) (by decide +kernel)
theorem mI_MK_step : Cond.instanceMethod y_MK_step ∈ tblG := mem_G (i := 347) (by decide +kernel) (by decide +kernel)
theorem mI_MK_bar : Cond.instanceMethod y_MK_bar ∈ tblG := mem_G (i := 355) (by decide +kernel) (by decide +kernel)
theorem mI_MK_needDepth : Cond.instanceMethod y_MK_needDepth ∈ tblG := mem_G (i := 360) (by decide +kernel) (by decide +kernel)
theorem mI_Law_isBarred : Cond.instanceMethod y_Law_isBarred ∈ tblG := mem_G (i := 364) (by decide +kernel) (by decide +kernel)
theorem mI_Law_setBarred : Cond.instanceMethod y_Law_setBarred ∈ tblG := mem_G (i := 371) (by decide +kernel) (by decide +kernel)
theorem mI_MK_top : Cond.instanceMethod y_MK_top ∈ tblG := mem_G (i := 379) (by decide +kernel) (by decide +kernel)
theorem mI_MK_run : Cond.instanceMethod y_MK_run ∈ tblG := mem_G (i := 387) (by decide +kernel) (by decide +kernel)
theorem mI_Search_look : Cond.instanceMethod y_Search_look ∈ tblG := mem_G (i := 394) (by decide +kernel) (by decide +kernel)
theorem mI_Search_stands : Cond.instanceMethod y_Search_stands ∈ tblG := mem_G (i := 399) (by decide +kernel) (by decide +kernel)
theorem mI_Law_mayFollow : Cond.instanceMethod y_Law_mayFollow ∈ tblG := mem_G (i := 402) (by decide +kernel) (by decide +kernel)
theorem mI_Board_accepts : Cond.instanceMethod y_Board_accepts ∈ tblG := mem_G (i := 410) (by decide +kernel) (by decide +kernel)
theorem mI_Board_rowFromCuts : Cond.instanceMethod y_Board_rowFromCuts ∈ tblG := mem_G (i := 415) (by decide +kernel) (by decide +kernel)
theorem mI_Board_isTaken : Cond.instanceMethod y_Board_isTaken ∈ tblG := mem_G (i := 422) (by decide +kernel) (by decide +kernel)
theorem mI_Board_doorAccepts : Cond.instanceMethod y_Board_doorAccepts ∈ tblG := mem_G (i := 426) (by decide +kernel) (by decide +kernel)
theorem mI_Board_isAboveTop : Cond.instanceMethod y_Board_isAboveTop ∈ tblG := mem_G (i := 431) (by decide +kernel) (by decide +kernel)
theorem mI_Board_strangerFits : Cond.instanceMethod y_Board_strangerFits ∈ tblG := mem_G (i := 442) (by decide +kernel) (by decide +kernel)
theorem mI_Search_goBack : Cond.instanceMethod y_Search_goBack ∈ tblG := mem_G (i := 446) (by decide +kernel) (by decide +kernel)
theorem mI_Search_goOn : Cond.instanceMethod y_Search_goOn ∈ tblG := mem_G (i := 450) (by decide +kernel) (by decide +kernel)
theorem mI_MK_cut : Cond.instanceMethod y_MK_cut ∈ tblG := mem_G (i := 456) (by decide +kernel) (by decide +kernel)
theorem mI_MK_needPin : Cond.instanceMethod y_MK_needPin ∈ tblG := mem_G (i := 461) (by decide +kernel) (by decide +kernel)
theorem mI_MK_holds : Cond.instanceMethod y_MK_holds ∈ tblG := mem_G (i := 468) (by decide +kernel) (by decide +kernel)
theorem mI_Board_doorsHolding : Cond.instanceMethod y_Board_doorsHolding ∈ tblG := mem_G (i := 472) (by decide +kernel) (by decide +kernel)
theorem mI_MK_fits : Cond.instanceMethod y_MK_fits ∈ tblG := mem_G (i := 479) (by decide +kernel) (by decide +kernel)
theorem mI_MK_left : Cond.instanceMethod y_MK_left ∈ tblG := mem_G (i := 486) (by decide +kernel) (by decide +kernel)
theorem mI_MK_needPlan : Cond.instanceMethod y_MK_needPlan ∈ tblG := mem_G (i := 491) (by decide +kernel) (by decide +kernel)
theorem mI_Rows_countFree : Cond.instanceMethod y_Rows_countFree ∈ tblG := mem_G (i := 495) (by decide +kernel) (by decide +kernel)
theorem mI_Rows_countWays : Cond.instanceMethod y_Rows_countWays ∈ tblG := mem_G (i := 500) (by decide +kernel) (by decide +kernel)
theorem mI_Rows_countWaysBehind : Cond.instanceMethod y_Rows_countWaysBehind ∈ tblG := mem_G (i := 507) (by decide +kernel) (by decide +kernel)
theorem mI_Rows_addWays : Cond.instanceMethod y_Rows_addWays ∈ tblG := mem_G (i := 513) (by decide +kernel) (by decide +kernel)
theorem mI_Board_countKeys : Cond.instanceMethod y_Board_countKeys ∈ tblG := mem_G (i := 516) (by decide +kernel) (by decide +kernel)
theorem mI_MK_add : Cond.instanceMethod y_MK_add ∈ tblG := mem_G (i := 524) (by decide +kernel) (by decide +kernel)
theorem mI_Board_allDoors : Cond.instanceMethod y_Board_allDoors ∈ tblG := mem_G (i := 528) (by decide +kernel) (by decide +kernel)
theorem mI_Rows_cutLeast : Cond.instanceMethod y_Rows_cutLeast ∈ tblG := mem_G (i := 533) (by decide +kernel) (by decide +kernel)
theorem mI_Rows_leastDepth : Cond.instanceMethod y_Rows_leastDepth ∈ tblG := mem_G (i := 539) (by decide +kernel) (by decide +kernel)
theorem mI_Board_enter : Cond.instanceMethod y_Board_enter ∈ tblG := mem_G (i := 543) (by decide +kernel) (by decide +kernel)
theorem mI_MK_heirs : Cond.instanceMethod y_MK_heirs ∈ tblG := mem_G (i := 550) (by decide +kernel) (by decide +kernel)
theorem mI_RM_init : Cond.instanceMethod y_RM_init ∈ tblG := mem_G (i := 556) (by decide +kernel) (by decide +kernel)
theorem mI_RM_thrown : Cond.instanceMethod y_RM_thrown ∈ tblG := mem_G (i := 601) (by decide +kernel) (by decide +kernel)
theorem mI_RM_key : Cond.instanceMethod y_RM_key ∈ tblG := mem_G (i := 605) (by decide +kernel) (by decide +kernel)
theorem mI_RM_door : Cond.instanceMethod y_RM_door ∈ tblG := mem_G (i := 609) (by decide +kernel) (by decide +kernel)
theorem mI_RM_must : Cond.instanceMethod y_RM_must ∈ tblG := mem_G (i := 613) (by decide +kernel) (by decide +kernel)
theorem mI_RM_noKey : Cond.instanceMethod y_RM_noKey ∈ tblG := mem_G (i := 618) (by decide +kernel) (by decide +kernel)
theorem mI_RM_noDoor : Cond.instanceMethod y_RM_noDoor ∈ tblG := mem_G (i := 622) (by decide +kernel) (by decide +kernel)
theorem mI_RM_step : Cond.instanceMethod y_RM_step ∈ tblG := mem_G (i := 625) (by decide +kernel) (by decide +kernel)
theorem mI_RM_bar : Cond.instanceMethod y_RM_bar ∈ tblG := mem_G (i := 632) (by decide +kernel) (by decide +kernel)
theorem mI_RM_noDepth : Cond.instanceMethod y_RM_noDepth ∈ tblG := mem_G (i := 637) (by decide +kernel) (by decide +kernel)
theorem mI_RM_top : Cond.instanceMethod y_RM_top ∈ tblG := mem_G (i := 640) (by decide +kernel) (by decide +kernel)
theorem mI_RM_run : Cond.instanceMethod y_RM_run ∈ tblG := mem_G (i := 644) (by decide +kernel) (by decide +kernel)
theorem mI_RM_mayStand : Cond.instanceMethod y_RM_mayStand ∈ tblG := mem_G (i := 650) (by decide +kernel) (by decide +kernel)
theorem mI_RM_areGood : Cond.instanceMethod y_RM_areGood ∈ tblG := mem_G (i := 654) (by decide +kernel) (by decide +kernel)
theorem mI_RM_isAlike : Cond.instanceMethod y_RM_isAlike ∈ tblG := mem_G (i := 658) (by decide +kernel) (by decide +kernel)
theorem mI_RM_isHeld : Cond.instanceMethod y_RM_isHeld ∈ tblG := mem_G (i := 662) (by decide +kernel) (by decide +kernel)
theorem mI_RM_isFitting : Cond.instanceMethod y_RM_isFitting ∈ tblG := mem_G (i := 666) (by decide +kernel) (by decide +kernel)
theorem mI_RM_tries : Cond.instanceMethod y_RM_tries ∈ tblG := mem_G (i := 669) (by decide +kernel) (by decide +kernel)
theorem mI_RM_cut : Cond.instanceMethod y_RM_cut ∈ tblG := mem_G (i := 673) (by decide +kernel) (by decide +kernel)
theorem mI_RM_noPin : Cond.instanceMethod y_RM_noPin ∈ tblG := mem_G (i := 678) (by decide +kernel) (by decide +kernel)
theorem mI_RM_holds : Cond.instanceMethod y_RM_holds ∈ tblG := mem_G (i := 681) (by decide +kernel) (by decide +kernel)
theorem mI_RM_fits : Cond.instanceMethod y_RM_fits ∈ tblG := mem_G (i := 685) (by decide +kernel) (by decide +kernel)
theorem mI_RM_wrong : Cond.instanceMethod y_RM_wrong ∈ tblG := mem_G (i := 689) (by decide +kernel) (by decide +kernel)
theorem mI_RM_left : Cond.instanceMethod y_RM_left ∈ tblG := mem_G (i := 693) (by decide +kernel) (by decide +kernel)
theorem mI_RM_rows : Cond.instanceMethod y_RM_rows ∈ tblG := mem_G (i := 698) (by decide +kernel) (by decide +kernel)
theorem mI_RM_isFree : Cond.instanceMethod y_RM_isFree ∈ tblG := mem_G (i := 702) (by decide +kernel) (by decide +kernel)
theorem mI_RM_doorsOfRow : Cond.instanceMethod y_RM_doorsOfRow ∈ tblG := mem_G (i := 706) (by decide +kernel) (by decide +kernel)
theorem mI_RM_add : Cond.instanceMethod y_RM_add ∈ tblG := mem_G (i := 709) (by decide +kernel) (by decide +kernel)
theorem mI_RM_heirs : Cond.instanceMethod y_RM_heirs ∈ tblG := mem_G (i := 713) (by decide +kernel) (by decide +kernel)
theorem mS_Math_min : Cond.static ⟨"java/lang/Math", "min", "(II)I"⟩ ∈ tblG := mem_G (i := 57) (by decide +kernel) (by decide +kernel)
theorem mS_Math_max : Cond.static ⟨"java/lang/Math", "max", "(II)I"⟩ ∈ tblG := mem_G (i := 60) (by decide +kernel) (by decide +kernel)
theorem mS_Board_isWithin : Cond.static y_Board_isWithin ∈ tblG := mem_G (i := 207) (by decide +kernel) (by decide +kernel)
theorem mS_JI_bitCount : Cond.static y_JI_bitCount ∈ tblG := mem_G (i := 211) (by decide +kernel) (by decide +kernel)
theorem mS_LW_cell : Cond.static y_LW_cell ∈ tblG := mem_G (i := 217) (by decide +kernel) (by decide +kernel)
theorem mS_LW_key : Cond.static y_LW_key ∈ tblG := mem_G (i := 220) (by decide +kernel) (by decide +kernel)
theorem mS_LW_door : Cond.static y_LW_door ∈ tblG := mem_G (i := 295) (by decide +kernel) (by decide +kernel)
theorem mS_LW_must : Cond.static y_LW_must ∈ tblG := mem_G (i := 303) (by decide +kernel) (by decide +kernel)
theorem mS_LW_step : Cond.static y_LW_step ∈ tblG := mem_G (i := 344) (by decide +kernel) (by decide +kernel)
theorem mS_LW_bar : Cond.static y_LW_bar ∈ tblG := mem_G (i := 352) (by decide +kernel) (by decide +kernel)
theorem mS_Law_pairBit : Cond.static y_Law_pairBit ∈ tblG := mem_G (i := 368) (by decide +kernel) (by decide +kernel)
theorem mS_LW_top : Cond.static y_LW_top ∈ tblG := mem_G (i := 376) (by decide +kernel) (by decide +kernel)
theorem mS_LW_run : Cond.static y_LW_run ∈ tblG := mem_G (i := 384) (by decide +kernel) (by decide +kernel)
theorem mS_Math_abs : Cond.static ⟨"java/lang/Math", "abs", "(I)I"⟩ ∈ tblG := mem_G (i := 406) (by decide +kernel) (by decide +kernel)
theorem mS_Board_bit : Cond.static y_Board_bit ∈ tblG := mem_G (i := 418) (by decide +kernel) (by decide +kernel)
theorem mS_JL_bitCount : Cond.static y_JL_bitCount ∈ tblG := mem_G (i := 435) (by decide +kernel) (by decide +kernel)
theorem mS_LW_cut : Cond.static y_LW_cut ∈ tblG := mem_G (i := 453) (by decide +kernel) (by decide +kernel)
theorem mS_LW_holds : Cond.static y_LW_holds ∈ tblG := mem_G (i := 465) (by decide +kernel) (by decide +kernel)
theorem mS_LW_fits : Cond.static y_LW_fits ∈ tblG := mem_G (i := 476) (by decide +kernel) (by decide +kernel)
theorem mS_LW_left : Cond.static y_LW_left ∈ tblG := mem_G (i := 483) (by decide +kernel) (by decide +kernel)
theorem mS_Rows_state : Cond.static y_Rows_state ∈ tblG := mem_G (i := 503) (by decide +kernel) (by decide +kernel)
theorem mS_LW_add : Cond.static y_LW_add ∈ tblG := mem_G (i := 521) (by decide +kernel) (by decide +kernel)
theorem mS_LW_heirs : Cond.static y_LW_heirs ∈ tblG := mem_G (i := 547) (by decide +kernel) (by decide +kernel)
theorem mS_RM_isIn : Cond.static y_RM_isIn ∈ tblG := mem_G (i := 629) (by decide +kernel) (by decide +kernel)
theorem mV_MK_tries : Cond.selects R_MK y_MK_tries y_MK_tries ∈ tblG := mem_G (i := 192) (by decide +kernel) (by decide +kernel)
theorem mV_MK_wrong : Cond.selects R_MK y_MK_wrong y_MK_wrong ∈ tblG := mem_G (i := 196) (by decide +kernel) (by decide +kernel)
theorem mV_Board_doorsOf : Cond.selects R_Board y_Board_doorsOf y_Board_doorsOf ∈ tblG := mem_G (i := 200) (by decide +kernel) (by decide +kernel)
theorem mV_MK_key : Cond.selects R_MK y_MK_key y_MK_key ∈ tblG := mem_G (i := 225) (by decide +kernel) (by decide +kernel)
theorem mV_MK_door : Cond.selects R_MK y_MK_door y_MK_door ∈ tblG := mem_G (i := 299) (by decide +kernel) (by decide +kernel)
theorem mV_MK_must : Cond.selects R_MK y_MK_must y_MK_must ∈ tblG := mem_G (i := 308) (by decide +kernel) (by decide +kernel)
theorem mV_Board_mustOpen : Cond.selects R_Board y_Board_mustOpen y_Board_mustOpen ∈ tblG := mem_G (i := 337) (by decide +kernel) (by decide +kernel)
theorem mV_Board_tell : Cond.selects R_Board y_Board_tell y_Board_tell ∈ tblG := mem_G (i := 341) (by decide +kernel) (by decide +kernel)
theorem mV_MK_step : Cond.selects R_MK y_MK_step y_MK_step ∈ tblG := mem_G (i := 348) (by decide +kernel) (by decide +kernel)
theorem mV_MK_bar : Cond.selects R_MK y_MK_bar y_MK_bar ∈ tblG := mem_G (i := 356) (by decide +kernel) (by decide +kernel)
theorem mV_Law_isBarred : Cond.selects R_Law y_Law_isBarred y_Law_isBarred ∈ tblG := mem_G (i := 365) (by decide +kernel) (by decide +kernel)
theorem mV_Law_setBarred : Cond.selects R_Law y_Law_setBarred y_Law_setBarred ∈ tblG := mem_G (i := 372) (by decide +kernel) (by decide +kernel)
theorem mV_MK_top : Cond.selects R_MK y_MK_top y_MK_top ∈ tblG := mem_G (i := 380) (by decide +kernel) (by decide +kernel)
theorem mV_MK_run : Cond.selects R_MK y_MK_run y_MK_run ∈ tblG := mem_G (i := 388) (by decide +kernel) (by decide +kernel)
theorem mV_Search_look : Cond.selects R_Search y_Search_look y_Search_look ∈ tblG := mem_G (i := 395) (by decide +kernel) (by decide +kernel)
theorem mV_Law_mayFollow : Cond.selects R_Law y_Law_mayFollow y_Law_mayFollow ∈ tblG := mem_G (i := 403) (by decide +kernel) (by decide +kernel)
theorem mV_Board_accepts : Cond.selects R_Board y_Board_accepts y_Board_accepts ∈ tblG := mem_G (i := 411) (by decide +kernel) (by decide +kernel)
theorem mV_MK_cut : Cond.selects R_MK y_MK_cut y_MK_cut ∈ tblG := mem_G (i := 457) (by decide +kernel) (by decide +kernel)
theorem mV_MK_holds : Cond.selects R_MK y_MK_holds y_MK_holds ∈ tblG := mem_G (i := 469) (by decide +kernel) (by decide +kernel)
theorem mV_Board_doorsHolding : Cond.selects R_Board y_Board_doorsHolding y_Board_doorsHolding ∈ tblG := mem_G (i := 473) (by decide +kernel) (by decide +kernel)
theorem mV_MK_fits : Cond.selects R_MK y_MK_fits y_MK_fits ∈ tblG := mem_G (i := 480) (by decide +kernel) (by decide +kernel)
theorem mV_MK_left : Cond.selects R_MK y_MK_left y_MK_left ∈ tblG := mem_G (i := 487) (by decide +kernel) (by decide +kernel)
theorem mV_Rows_countFree : Cond.selects R_Rows y_Rows_countFree y_Rows_countFree ∈ tblG := mem_G (i := 496) (by decide +kernel) (by decide +kernel)
theorem mV_Board_countKeys : Cond.selects R_Board y_Board_countKeys y_Board_countKeys ∈ tblG := mem_G (i := 517) (by decide +kernel) (by decide +kernel)
theorem mV_MK_add : Cond.selects R_MK y_MK_add y_MK_add ∈ tblG := mem_G (i := 525) (by decide +kernel) (by decide +kernel)
theorem mV_Board_allDoors : Cond.selects R_Board y_Board_allDoors y_Board_allDoors ∈ tblG := mem_G (i := 529) (by decide +kernel) (by decide +kernel)
theorem mV_Rows_cutLeast : Cond.selects R_Rows y_Rows_cutLeast y_Rows_cutLeast ∈ tblG := mem_G (i := 534) (by decide +kernel) (by decide +kernel)
theorem mV_Board_enter : Cond.selects R_Board y_Board_enter y_Board_enter ∈ tblG := mem_G (i := 544) (by decide +kernel) (by decide +kernel)
theorem mV_MK_heirs : Cond.selects R_MK y_MK_heirs y_MK_heirs ∈ tblG := mem_G (i := 551) (by decide +kernel) (by decide +kernel)
theorem mV_RM_thrown : Cond.selects R_RM y_RM_thrown y_RM_thrown ∈ tblG := mem_G (i := 602) (by decide +kernel) (by decide +kernel)
theorem mV_RM_key : Cond.selects R_RM y_RM_key y_RM_key ∈ tblG := mem_G (i := 606) (by decide +kernel) (by decide +kernel)
theorem mV_RM_door : Cond.selects R_RM y_RM_door y_RM_door ∈ tblG := mem_G (i := 610) (by decide +kernel) (by decide +kernel)
theorem mV_RM_must : Cond.selects R_RM y_RM_must y_RM_must ∈ tblG := mem_G (i := 614) (by decide +kernel) (by decide +kernel)
theorem mV_RM_step : Cond.selects R_RM y_RM_step y_RM_step ∈ tblG := mem_G (i := 626) (by decide +kernel) (by decide +kernel)
theorem mV_RM_bar : Cond.selects R_RM y_RM_bar y_RM_bar ∈ tblG := mem_G (i := 633) (by decide +kernel) (by decide +kernel)
theorem mV_RM_top : Cond.selects R_RM y_RM_top y_RM_top ∈ tblG := mem_G (i := 641) (by decide +kernel) (by decide +kernel)
theorem mV_RM_run : Cond.selects R_RM y_RM_run y_RM_run ∈ tblG := mem_G (i := 645) (by decide +kernel) (by decide +kernel)
theorem mV_RM_tries : Cond.selects R_RM y_RM_tries y_RM_tries ∈ tblG := mem_G (i := 670) (by decide +kernel) (by decide +kernel)
theorem mV_RM_cut : Cond.selects R_RM y_RM_cut y_RM_cut ∈ tblG := mem_G (i := 674) (by decide +kernel) (by decide +kernel)
theorem mV_RM_holds : Cond.selects R_RM y_RM_holds y_RM_holds ∈ tblG := mem_G (i := 682) (by decide +kernel) (by decide +kernel)
theorem mV_RM_fits : Cond.selects R_RM y_RM_fits y_RM_fits ∈ tblG := mem_G (i := 686) (by decide +kernel) (by decide +kernel)
theorem mV_RM_wrong : Cond.selects R_RM y_RM_wrong y_RM_wrong ∈ tblG := mem_G (i := 690) (by decide +kernel) (by decide +kernel)
theorem mV_RM_left : Cond.selects R_RM y_RM_left y_RM_left ∈ tblG := mem_G (i := 694) (by decide +kernel) (by decide +kernel)
theorem mV_RM_add : Cond.selects R_RM y_RM_add y_RM_add ∈ tblG := mem_G (i := 710) (by decide +kernel) (by decide +kernel)
theorem mV_RM_heirs : Cond.selects R_RM y_RM_heirs y_RM_heirs ∈ tblG := mem_G (i := 714) (by decide +kernel) (by decide +kernel)
theorem mV_Board_doorsFitted : Cond.selects R_Board y_Board_doorsFitted y_Board_doorsFitted ∈ tblG := mem_G (i := 0) (by decide +kernel) (by decide +kernel)
theorem mV_MK_needKey : Cond.selects R_MK y_MK_needKey y_MK_needKey ∈ tblG := mem_G (i := 2) (by decide +kernel) (by decide +kernel)
theorem mV_MK_needDoor : Cond.selects R_MK y_MK_needDoor y_MK_needDoor ∈ tblG := mem_G (i := 3) (by decide +kernel) (by decide +kernel)
theorem mV_MK_needDepth : Cond.selects R_MK y_MK_needDepth y_MK_needDepth ∈ tblG := mem_G (i := 4) (by decide +kernel) (by decide +kernel)
theorem mV_Search_stands : Cond.selects R_Search y_Search_stands y_Search_stands ∈ tblG := mem_G (i := 5) (by decide +kernel) (by decide +kernel)
theorem mV_Board_rowFromCuts : Cond.selects R_Board y_Board_rowFromCuts y_Board_rowFromCuts ∈ tblG := mem_G (i := 6) (by decide +kernel) (by decide +kernel)
theorem mV_Board_isTaken : Cond.selects R_Board y_Board_isTaken y_Board_isTaken ∈ tblG := mem_G (i := 7) (by decide +kernel) (by decide +kernel)
theorem mV_Board_doorAccepts : Cond.selects R_Board y_Board_doorAccepts y_Board_doorAccepts ∈ tblG := mem_G (i := 8) (by decide +kernel) (by decide +kernel)
theorem mV_Board_isAboveTop : Cond.selects R_Board y_Board_isAboveTop y_Board_isAboveTop ∈ tblG := mem_G (i := 9) (by decide +kernel) (by decide +kernel)
theorem mV_Board_strangerFits : Cond.selects R_Board y_Board_strangerFits y_Board_strangerFits ∈ tblG := mem_G (i := 10) (by decide +kernel) (by decide +kernel)
theorem mV_Search_goBack : Cond.selects R_Search y_Search_goBack y_Search_goBack ∈ tblG := mem_G (i := 11) (by decide +kernel) (by decide +kernel)
theorem mV_Search_goOn : Cond.selects R_Search y_Search_goOn y_Search_goOn ∈ tblG := mem_G (i := 12) (by decide +kernel) (by decide +kernel)
theorem mV_MK_needPin : Cond.selects R_MK y_MK_needPin y_MK_needPin ∈ tblG := mem_G (i := 13) (by decide +kernel) (by decide +kernel)
theorem mV_MK_needPlan : Cond.selects R_MK y_MK_needPlan y_MK_needPlan ∈ tblG := mem_G (i := 14) (by decide +kernel) (by decide +kernel)
theorem mV_Rows_countWays : Cond.selects R_Rows y_Rows_countWays y_Rows_countWays ∈ tblG := mem_G (i := 15) (by decide +kernel) (by decide +kernel)
theorem mV_Rows_countWaysBehind : Cond.selects R_Rows y_Rows_countWaysBehind y_Rows_countWaysBehind ∈ tblG := mem_G (i := 16) (by decide +kernel) (by decide +kernel)
theorem mV_Rows_addWays : Cond.selects R_Rows y_Rows_addWays y_Rows_addWays ∈ tblG := mem_G (i := 17) (by decide +kernel) (by decide +kernel)
theorem mV_Rows_leastDepth : Cond.selects R_Rows y_Rows_leastDepth y_Rows_leastDepth ∈ tblG := mem_G (i := 18) (by decide +kernel) (by decide +kernel)
theorem mV_RM_noKey : Cond.selects R_RM y_RM_noKey y_RM_noKey ∈ tblG := mem_G (i := 19) (by decide +kernel) (by decide +kernel)
theorem mV_RM_noDoor : Cond.selects R_RM y_RM_noDoor y_RM_noDoor ∈ tblG := mem_G (i := 20) (by decide +kernel) (by decide +kernel)
theorem mV_RM_noDepth : Cond.selects R_RM y_RM_noDepth y_RM_noDepth ∈ tblG := mem_G (i := 21) (by decide +kernel) (by decide +kernel)
theorem mV_RM_mayStand : Cond.selects R_RM y_RM_mayStand y_RM_mayStand ∈ tblG := mem_G (i := 22) (by decide +kernel) (by decide +kernel)
theorem mV_RM_areGood : Cond.selects R_RM y_RM_areGood y_RM_areGood ∈ tblG := mem_G (i := 23) (by decide +kernel) (by decide +kernel)
theorem mV_RM_isAlike : Cond.selects R_RM y_RM_isAlike y_RM_isAlike ∈ tblG := mem_G (i := 24) (by decide +kernel) (by decide +kernel)
theorem mV_RM_isHeld : Cond.selects R_RM y_RM_isHeld y_RM_isHeld ∈ tblG := mem_G (i := 25) (by decide +kernel) (by decide +kernel)
theorem mV_RM_isFitting : Cond.selects R_RM y_RM_isFitting y_RM_isFitting ∈ tblG := mem_G (i := 26) (by decide +kernel) (by decide +kernel)
theorem mV_RM_noPin : Cond.selects R_RM y_RM_noPin y_RM_noPin ∈ tblG := mem_G (i := 27) (by decide +kernel) (by decide +kernel)
theorem mV_RM_rows : Cond.selects R_RM y_RM_rows y_RM_rows ∈ tblG := mem_G (i := 28) (by decide +kernel) (by decide +kernel)
theorem mV_RM_isFree : Cond.selects R_RM y_RM_isFree y_RM_isFree ∈ tblG := mem_G (i := 29) (by decide +kernel) (by decide +kernel)
theorem mV_RM_doorsOfRow : Cond.selects R_RM y_RM_doorsOfRow y_RM_doorsOfRow ∈ tblG := mem_G (i := 30) (by decide +kernel) (by decide +kernel)
theorem mN_LW : Cond.initialized R_LW ∈ tblG := mem_G (i := 31) (by decide +kernel) (by decide +kernel)
theorem mN_MK : Cond.initialized R_MK ∈ tblG := mem_G (i := 32) (by decide +kernel) (by decide +kernel)
theorem mN_Law : Cond.initialized R_Law ∈ tblG := mem_G (i := 33) (by decide +kernel) (by decide +kernel)
theorem mN_Math : Cond.initialized "java/lang/Math" ∈ tblG := mem_G (i := 34) (by decide +kernel) (by decide +kernel)
theorem mN_Board : Cond.initialized R_Board ∈ tblG := mem_G (i := 35) (by decide +kernel) (by decide +kernel)
theorem mN_Search : Cond.initialized R_Search ∈ tblG := mem_G (i := 36) (by decide +kernel) (by decide +kernel)
theorem mN_Rows : Cond.initialized R_Rows ∈ tblG := mem_G (i := 37) (by decide +kernel) (by decide +kernel)
theorem mN_RM : Cond.initialized R_RM ∈ tblG := mem_G (i := 38) (by decide +kernel) (by decide +kernel)
theorem mN_Throwable : Cond.initialized "java/lang/Throwable" ∈ tblG := mem_G (i := 39) (by decide +kernel) (by decide +kernel)
theorem mN_Exception : Cond.initialized "java/lang/Exception" ∈ tblG := mem_G (i := 40) (by decide +kernel) (by decide +kernel)
theorem mN_RuntimeException : Cond.initialized "java/lang/RuntimeException" ∈ tblG := mem_G (i := 41) (by decide +kernel) (by decide +kernel)
theorem mN_ISE : Cond.initialized R_ISE ∈ tblG := mem_G (i := 42) (by decide +kernel) (by decide +kernel)
theorem mN_IAE : Cond.initialized R_IAE ∈ tblG := mem_G (i := 43) (by decide +kernel) (by decide +kernel)
theorem mN_JL : Cond.initialized R_JL ∈ tblG := mem_G (i := 44) (by decide +kernel) (by decide +kernel)
theorem mN_JI : Cond.initialized R_JI ∈ tblG := mem_G (i := 45) (by decide +kernel) (by decide +kernel)
theorem mF_Law_18 : Cond.fieldLink R_Law 18 "MasterKeys$Law" "pins" "I" ∈ tblG := mem_G (i := 66) (by decide +kernel) (by decide +kernel)
theorem mF_Rows_57 : Cond.fieldLink R_Rows 57 "MasterKeys$Law" "pins" "I" ∈ tblG := mem_G (i := 67) (by decide +kernel) (by decide +kernel)
theorem mF_Search_51 : Cond.fieldLink R_Search 51 "MasterKeys$Law" "pins" "I" ∈ tblG := mem_G (i := 68) (by decide +kernel) (by decide +kernel)
theorem mF_Board_79 : Cond.fieldLink R_Board 79 "MasterKeys$Law" "pins" "I" ∈ tblG := mem_G (i := 69) (by decide +kernel) (by decide +kernel)
theorem mF_MK_166 : Cond.fieldLink R_MK 166 "MasterKeys$Law" "pins" "I" ∈ tblG := mem_G (i := 70) (by decide +kernel) (by decide +kernel)
theorem mF_Law_21 : Cond.fieldLink R_Law 21 "MasterKeys$Law" "depths" "I" ∈ tblG := mem_G (i := 71) (by decide +kernel) (by decide +kernel)
theorem mF_Rows_28 : Cond.fieldLink R_Rows 28 "MasterKeys$Law" "depths" "I" ∈ tblG := mem_G (i := 72) (by decide +kernel) (by decide +kernel)
theorem mF_Search_61 : Cond.fieldLink R_Search 61 "MasterKeys$Law" "depths" "I" ∈ tblG := mem_G (i := 73) (by decide +kernel) (by decide +kernel)
theorem mF_MK_171 : Cond.fieldLink R_MK 171 "MasterKeys$Law" "depths" "I" ∈ tblG := mem_G (i := 74) (by decide +kernel) (by decide +kernel)
theorem mF_Law_9 : Cond.fieldLink R_Law 9 "MasterKeys$Law" "step" "I" ∈ tblG := mem_G (i := 75) (by decide +kernel) (by decide +kernel)
theorem mF_MK_92 : Cond.fieldLink R_MK 92 "MasterKeys$Law" "step" "I" ∈ tblG := mem_G (i := 76) (by decide +kernel) (by decide +kernel)
theorem mF_Law_15 : Cond.fieldLink R_Law 15 "MasterKeys$Law" "top" "I" ∈ tblG := mem_G (i := 77) (by decide +kernel) (by decide +kernel)
theorem mF_MK_106 : Cond.fieldLink R_MK 106 "MasterKeys$Law" "top" "I" ∈ tblG := mem_G (i := 78) (by decide +kernel) (by decide +kernel)
theorem mF_Board_91 : Cond.fieldLink R_Board 91 "MasterKeys$Law" "top" "I" ∈ tblG := mem_G (i := 79) (by decide +kernel) (by decide +kernel)
theorem mF_Law_24 : Cond.fieldLink R_Law 24 "MasterKeys$Law" "barred" "J" ∈ tblG := mem_G (i := 80) (by decide +kernel) (by decide +kernel)
theorem mF_Board_29 : Cond.fieldLink R_Board 29 "MasterKeys$Board" "law" "LMasterKeys$Law;" ∈ tblG := mem_G (i := 102) (by decide +kernel) (by decide +kernel)
theorem mF_MK_52 : Cond.fieldLink R_MK 52 "MasterKeys$Board" "keys" "I" ∈ tblG := mem_G (i := 103) (by decide +kernel) (by decide +kernel)
theorem mF_Rows_50 : Cond.fieldLink R_Rows 50 "MasterKeys$Board" "keys" "I" ∈ tblG := mem_G (i := 104) (by decide +kernel) (by decide +kernel)
theorem mF_Search_58 : Cond.fieldLink R_Search 58 "MasterKeys$Board" "keys" "I" ∈ tblG := mem_G (i := 105) (by decide +kernel) (by decide +kernel)
theorem mF_Board_45 : Cond.fieldLink R_Board 45 "MasterKeys$Board" "keys" "I" ∈ tblG := mem_G (i := 106) (by decide +kernel) (by decide +kernel)
theorem mF_Board_33 : Cond.fieldLink R_Board 33 "MasterKeys$Board" "doors" "I" ∈ tblG := mem_G (i := 107) (by decide +kernel) (by decide +kernel)
theorem mF_MK_67 : Cond.fieldLink R_MK 67 "MasterKeys$Board" "doors" "I" ∈ tblG := mem_G (i := 108) (by decide +kernel) (by decide +kernel)
theorem mF_Board_9 : Cond.fieldLink R_Board 9 "MasterKeys$Board" "opens" "[I" ∈ tblG := mem_G (i := 109) (by decide +kernel) (by decide +kernel)
theorem mF_MK_134 : Cond.fieldLink R_MK 134 "MasterKeys$Board" "opens" "[I" ∈ tblG := mem_G (i := 110) (by decide +kernel) (by decide +kernel)
theorem mF_Board_17 : Cond.fieldLink R_Board 17 "MasterKeys$Board" "cuts" "[[I" ∈ tblG := mem_G (i := 111) (by decide +kernel) (by decide +kernel)
theorem mF_Search_29 : Cond.fieldLink R_Search 29 "MasterKeys$Board" "cuts" "[[I" ∈ tblG := mem_G (i := 112) (by decide +kernel) (by decide +kernel)
theorem mF_Rows_47 : Cond.fieldLink R_Rows 47 "MasterKeys$Board" "cuts" "[[I" ∈ tblG := mem_G (i := 113) (by decide +kernel) (by decide +kernel)
theorem mF_MK_124 : Cond.fieldLink R_MK 124 "MasterKeys$Board" "cuts" "[[I" ∈ tblG := mem_G (i := 114) (by decide +kernel) (by decide +kernel)
theorem mF_Board_20 : Cond.fieldLink R_Board 20 "MasterKeys$Board" "rowOf" "[J" ∈ tblG := mem_G (i := 115) (by decide +kernel) (by decide +kernel)
theorem mF_Board_26 : Cond.fieldLink R_Board 26 "MasterKeys$Board" "held" "[[J" ∈ tblG := mem_G (i := 116) (by decide +kernel) (by decide +kernel)
theorem mF_Search_9 : Cond.fieldLink R_Search 9 "MasterKeys$Search" "law" "LMasterKeys$Law;" ∈ tblG := mem_G (i := 140) (by decide +kernel) (by decide +kernel)
theorem mF_Search_15 : Cond.fieldLink R_Search 15 "MasterKeys$Search" "board" "LMasterKeys$Board;" ∈ tblG := mem_G (i := 141) (by decide +kernel) (by decide +kernel)
theorem mF_Search_19 : Cond.fieldLink R_Search 19 "MasterKeys$Search" "made" "I" ∈ tblG := mem_G (i := 142) (by decide +kernel) (by decide +kernel)
theorem mF_MK_118 : Cond.fieldLink R_MK 118 "MasterKeys$Search" "made" "I" ∈ tblG := mem_G (i := 143) (by decide +kernel) (by decide +kernel)
theorem mF_Search_23 : Cond.fieldLink R_Search 23 "MasterKeys$Search" "key" "I" ∈ tblG := mem_G (i := 144) (by decide +kernel) (by decide +kernel)
theorem mF_Search_26 : Cond.fieldLink R_Search 26 "MasterKeys$Search" "pin" "I" ∈ tblG := mem_G (i := 145) (by decide +kernel) (by decide +kernel)
theorem mF_Rows_16 : Cond.fieldLink R_Rows 16 "MasterKeys$Rows" "law" "LMasterKeys$Law;" ∈ tblG := mem_G (i := 164) (by decide +kernel) (by decide +kernel)
theorem mF_Rows_20 : Cond.fieldLink R_Rows 20 "MasterKeys$Rows" "board" "LMasterKeys$Board;" ∈ tblG := mem_G (i := 165) (by decide +kernel) (by decide +kernel)
theorem mF_Rows_11 : Cond.fieldLink R_Rows 11 "MasterKeys$Rows" "ways" "[[I" ∈ tblG := mem_G (i := 166) (by decide +kernel) (by decide +kernel)
theorem mF_MK_23 : Cond.fieldLink R_MK 23 "MasterKeys" "law" "LMasterKeys$Law;" ∈ tblG := mem_G (i := 174) (by decide +kernel) (by decide +kernel)
theorem mF_MK_32 : Cond.fieldLink R_MK 32 "MasterKeys" "board" "LMasterKeys$Board;" ∈ tblG := mem_G (i := 175) (by decide +kernel) (by decide +kernel)
theorem mF_MK_41 : Cond.fieldLink R_MK 41 "MasterKeys" "search" "LMasterKeys$Search;" ∈ tblG := mem_G (i := 176) (by decide +kernel) (by decide +kernel)
theorem mF_MK_48 : Cond.fieldLink R_MK 48 "MasterKeys" "rows" "LMasterKeys$Rows;" ∈ tblG := mem_G (i := 177) (by decide +kernel) (by decide +kernel)
theorem mF_MK_63 : Cond.fieldLink R_MK 63 "MasterKeys" "found" "Z" ∈ tblG := mem_G (i := 178) (by decide +kernel) (by decide +kernel)
theorem mF_RM_36 : Cond.fieldLink R_RM 36 "MasterKeysModel" "code" "I" ∈ tblG := mem_G (i := 559) (by decide +kernel) (by decide +kernel)
theorem mF_RM_30 : Cond.fieldLink R_RM 30 "MasterKeysModel" "pins" "I" ∈ tblG := mem_G (i := 560) (by decide +kernel) (by decide +kernel)
theorem mF_RM_33 : Cond.fieldLink R_RM 33 "MasterKeysModel" "depths" "I" ∈ tblG := mem_G (i := 561) (by decide +kernel) (by decide +kernel)
theorem mF_RM_39 : Cond.fieldLink R_RM 39 "MasterKeysModel" "keys" "I" ∈ tblG := mem_G (i := 562) (by decide +kernel) (by decide +kernel)
theorem mF_RM_42 : Cond.fieldLink R_RM 42 "MasterKeysModel" "doors" "I" ∈ tblG := mem_G (i := 563) (by decide +kernel) (by decide +kernel)
theorem mF_RM_7 : Cond.fieldLink R_RM 7 "MasterKeysModel" "must" "[Z" ∈ tblG := mem_G (i := 564) (by decide +kernel) (by decide +kernel)
theorem mF_RM_13 : Cond.fieldLink R_RM 13 "MasterKeysModel" "most" "I" ∈ tblG := mem_G (i := 565) (by decide +kernel) (by decide +kernel)
theorem mF_RM_17 : Cond.fieldLink R_RM 17 "MasterKeysModel" "top" "I" ∈ tblG := mem_G (i := 566) (by decide +kernel) (by decide +kernel)
theorem mF_RM_20 : Cond.fieldLink R_RM 20 "MasterKeysModel" "barred" "[Z" ∈ tblG := mem_G (i := 567) (by decide +kernel) (by decide +kernel)
theorem mF_RM_45 : Cond.fieldLink R_RM 45 "MasterKeysModel" "found" "Z" ∈ tblG := mem_G (i := 568) (by decide +kernel) (by decide +kernel)
theorem mF_RM_75 : Cond.fieldLink R_RM 75 "MasterKeysModel" "tries" "I" ∈ tblG := mem_G (i := 569) (by decide +kernel) (by decide +kernel)
theorem mF_RM_23 : Cond.fieldLink R_RM 23 "MasterKeysModel" "cuts" "[I" ∈ tblG := mem_G (i := 570) (by decide +kernel) (by decide +kernel)
theorem mF_RM_27 : Cond.fieldLink R_RM 27 "MasterKeysModel" "row" "[I" ∈ tblG := mem_G (i := 571) (by decide +kernel) (by decide +kernel)
theorem mC_JI_265 : Cond.constant R_JI 265 1431655765 ∈ tblG := mem_G (i := 213) (by decide +kernel) (by decide +kernel)
theorem mC_JI_266 : Cond.constant R_JI 266 858993459 ∈ tblG := mem_G (i := 214) (by decide +kernel) (by decide +kernel)
theorem mC_JI_267 : Cond.constant R_JI 267 252645135 ∈ tblG := mem_G (i := 215) (by decide +kernel) (by decide +kernel)
theorem mC_MK_109 : Cond.constant R_MK 109 200000 ∈ tblG := mem_G (i := 390) (by decide +kernel) (by decide +kernel)
theorem mC_RM_74 : Cond.constant R_RM 74 200000 ∈ tblG := mem_G (i := 647) (by decide +kernel) (by decide +kernel)
theorem mC_Board_94 : Cond.constantLong R_Board 94 (-1) ∈ tblG := mem_G (i := 209) (by decide +kernel) (by decide +kernel)
theorem mC_Law_32 : Cond.constantLong R_Law 32 (-1) ∈ tblG := mem_G (i := 374) (by decide +kernel) (by decide +kernel)
theorem mC_Board_84 : Cond.constantLong R_Board 84 255 ∈ tblG := mem_G (i := 433) (by decide +kernel) (by decide +kernel)
theorem mC_JL_314 : Cond.constantLong R_JL 314 6148914691236517205 ∈ tblG := mem_G (i := 437) (by decide +kernel) (by decide +kernel)
theorem mC_JL_316 : Cond.constantLong R_JL 316 3689348814741910323 ∈ tblG := mem_G (i := 438) (by decide +kernel) (by decide +kernel)
theorem mC_JL_318 : Cond.constantLong R_JL 318 1085102592571150095 ∈ tblG := mem_G (i := 439) (by decide +kernel) (by decide +kernel)
theorem mK_LW_8 : Cond.classLink R_LW 8 R_MK ∈ tblG := mem_G (i := 46) (by decide +kernel) (by decide +kernel)
theorem mK_MK_9 : Cond.classLink R_MK 9 R_Law ∈ tblG := mem_G (i := 54) (by decide +kernel) (by decide +kernel)
theorem mK_MK_27 : Cond.classLink R_MK 27 R_Board ∈ tblG := mem_G (i := 92) (by decide +kernel) (by decide +kernel)
theorem mK_Board_15 : Cond.classLink R_Board 15 "[[I" ∈ tblG := mem_G (i := 98) (by decide +kernel) (by decide +kernel)
theorem mK_Board_24 : Cond.classLink R_Board 24 "[[J" ∈ tblG := mem_G (i := 100) (by decide +kernel) (by decide +kernel)
theorem mK_MK_36 : Cond.classLink R_MK 36 R_Search ∈ tblG := mem_G (i := 134) (by decide +kernel) (by decide +kernel)
theorem mK_MK_45 : Cond.classLink R_MK 45 R_Rows ∈ tblG := mem_G (i := 157) (by decide +kernel) (by decide +kernel)
theorem mK_Rows_9 : Cond.classLink R_Rows 9 "[[I" ∈ tblG := mem_G (i := 163) (by decide +kernel) (by decide +kernel)
theorem mK_LW_13 : Cond.classLink R_LW 13 R_ISE ∈ tblG := mem_G (i := 222) (by decide +kernel) (by decide +kernel)
theorem mK_MK_56 : Cond.classLink R_MK 56 R_ISE ∈ tblG := mem_G (i := 227) (by decide +kernel) (by decide +kernel)
theorem mK_LW_22 : Cond.classLink R_LW 22 R_IAE ∈ tblG := mem_G (i := 305) (by decide +kernel) (by decide +kernel)
theorem mK_MK_87 : Cond.classLink R_MK 87 R_IAE ∈ tblG := mem_G (i := 314) (by decide +kernel) (by decide +kernel)
theorem mK_LW_67 : Cond.classLink R_LW 67 R_RM ∈ tblG := mem_G (i := 553) (by decide +kernel) (by decide +kernel)
theorem mB_MK : Cond.instantiable R_MK 5 ∈ tblG := mem_G (i := 47) (by decide +kernel) (by decide +kernel)
theorem mB_Law : Cond.instantiable R_Law 5 ∈ tblG := mem_G (i := 55) (by decide +kernel) (by decide +kernel)
theorem mB_Board : Cond.instantiable R_Board 7 ∈ tblG := mem_G (i := 93) (by decide +kernel) (by decide +kernel)
theorem mB_Search : Cond.instantiable R_Search 5 ∈ tblG := mem_G (i := 135) (by decide +kernel) (by decide +kernel)
theorem mB_Rows : Cond.instantiable R_Rows 3 ∈ tblG := mem_G (i := 158) (by decide +kernel) (by decide +kernel)
theorem mB_RM : Cond.instantiable R_RM 13 ∈ tblG := mem_G (i := 554) (by decide +kernel) (by decide +kernel)
set_option maxRecDepth 100000 in
theorem mk_Obj_init : Cond.code objectInit object_method_1_code 1 none ∈ tblG := mem_G (i := 53) rfl (by decide +kernel)
set_option maxRecDepth 100000 in
theorem mk_Math_min : Cond.code ⟨"java/lang/Math", "min", "(II)I"⟩ prog_13_method_69_code 2 (some .int) ∈ tblG := mem_G (i := 58) rfl (by decide +kernel)
set_option maxRecDepth 100000 in
theorem mk_Math_max : Cond.code ⟨"java/lang/Math", "max", "(II)I"⟩ prog_13_method_65_code 2 (some .int) ∈ tblG := mem_G (i := 61) rfl (by decide +kernel)
set_option maxRecDepth 100000 in
theorem mk_Math_abs : Cond.code ⟨"java/lang/Math", "abs", "(I)I"⟩ prog_13_method_59_code 1 (some .int) ∈ tblG := mem_G (i := 407) rfl (by decide +kernel)
end
section
theorem d_MK_init_0 : decode b_MK_init 0 = .ok (.aload_n 0, 1) := by decide +kernel
theorem d_MK_init_1 : decode b_MK_init 1 = .ok (.invokespecial 3, 3) := by decide +kernel
theorem d_MK_init_4 : decode b_MK_init 4 = .ok (.aload_n 0, 1) := by decide +kernel
theorem d_MK_init_5 : decode b_MK_init 5 = .ok (.new 9, 3) := by decide +kernel
theorem d_MK_init_8 : decode b_MK_init 8 = .ok (.dup, 1) := by decide +kernel
theorem d_MK_init_9 : decode b_MK_init 9 = .ok (.iconst 2, 1) := by decide +kernel
theorem d_MK_init_10 : decode b_MK_init 10 = .ok (.bipush 6, 2) := by decide +kernel
theorem d_MK_init_12 : decode b_MK_init 12 = .ok (.iload_n 1, 1) := by decide +kernel
theorem d_MK_init_13 : decode b_MK_init 13 = .ok (.invokestatic 11, 3) := by decide +kernel
theorem d_MK_init_16 : decode b_MK_init 16 = .ok (.invokestatic 17, 3) := by decide +kernel
theorem d_MK_init_19 : decode b_MK_init 19 = .ok (.iconst 2, 1) := by decide +kernel
theorem d_MK_init_20 : decode b_MK_init 20 = .ok (.bipush 8, 2) := by decide +kernel
theorem d_MK_init_22 : decode b_MK_init 22 = .ok (.iload_n 2, 1) := by decide +kernel
theorem d_MK_init_23 : decode b_MK_init 23 = .ok (.invokestatic 11, 3) := by decide +kernel
theorem d_MK_init_26 : decode b_MK_init 26 = .ok (.invokestatic 17, 3) := by decide +kernel
theorem d_MK_init_29 : decode b_MK_init 29 = .ok (.invokespecial 20, 3) := by decide +kernel
theorem d_MK_init_32 : decode b_MK_init 32 = .ok (.putfield 23, 3) := by decide +kernel
theorem d_MK_init_35 : decode b_MK_init 35 = .ok (.aload_n 0, 1) := by decide +kernel
theorem d_MK_init_36 : decode b_MK_init 36 = .ok (.new 27, 3) := by decide +kernel
theorem d_MK_init_39 : decode b_MK_init 39 = .ok (.dup, 1) := by decide +kernel
theorem d_MK_init_40 : decode b_MK_init 40 = .ok (.aload_n 0, 1) := by decide +kernel
theorem d_MK_init_41 : decode b_MK_init 41 = .ok (.getfield 23, 3) := by decide +kernel
theorem d_MK_init_44 : decode b_MK_init 44 = .ok (.invokespecial 29, 3) := by decide +kernel
theorem d_MK_init_47 : decode b_MK_init 47 = .ok (.putfield 32, 3) := by decide +kernel
theorem d_MK_init_50 : decode b_MK_init 50 = .ok (.aload_n 0, 1) := by decide +kernel
theorem d_MK_init_51 : decode b_MK_init 51 = .ok (.new 36, 3) := by decide +kernel
theorem d_MK_init_54 : decode b_MK_init 54 = .ok (.dup, 1) := by decide +kernel
theorem d_MK_init_55 : decode b_MK_init 55 = .ok (.aload_n 0, 1) := by decide +kernel
theorem d_MK_init_56 : decode b_MK_init 56 = .ok (.getfield 23, 3) := by decide +kernel
theorem d_MK_init_59 : decode b_MK_init 59 = .ok (.aload_n 0, 1) := by decide +kernel
theorem d_MK_init_60 : decode b_MK_init 60 = .ok (.getfield 32, 3) := by decide +kernel
theorem d_MK_init_63 : decode b_MK_init 63 = .ok (.invokespecial 38, 3) := by decide +kernel
theorem d_MK_init_66 : decode b_MK_init 66 = .ok (.putfield 41, 3) := by decide +kernel
theorem d_MK_init_69 : decode b_MK_init 69 = .ok (.aload_n 0, 1) := by decide +kernel
theorem d_MK_init_70 : decode b_MK_init 70 = .ok (.new 45, 3) := by decide +kernel
theorem d_MK_init_73 : decode b_MK_init 73 = .ok (.dup, 1) := by decide +kernel
theorem d_MK_init_74 : decode b_MK_init 74 = .ok (.aload_n 0, 1) := by decide +kernel
theorem d_MK_init_75 : decode b_MK_init 75 = .ok (.getfield 23, 3) := by decide +kernel
theorem d_MK_init_78 : decode b_MK_init 78 = .ok (.aload_n 0, 1) := by decide +kernel
theorem d_MK_init_79 : decode b_MK_init 79 = .ok (.getfield 32, 3) := by decide +kernel
theorem d_MK_init_82 : decode b_MK_init 82 = .ok (.invokespecial 47, 3) := by decide +kernel
theorem d_MK_init_85 : decode b_MK_init 85 = .ok (.putfield 48, 3) := by decide +kernel
theorem d_MK_init_88 : decode b_MK_init 88 = .ok (.return_, 1) := by decide +kernel
theorem d_Law_init_0 : decode b_Law_init 0 = .ok (.aload_n 0, 1) := by decide +kernel
theorem d_Law_init_1 : decode b_Law_init 1 = .ok (.invokespecial 3, 3) := by decide +kernel
theorem d_Law_init_4 : decode b_Law_init 4 = .ok (.aload_n 0, 1) := by decide +kernel
theorem d_Law_init_5 : decode b_Law_init 5 = .ok (.bipush 7, 2) := by decide +kernel
theorem d_Law_init_7 : decode b_Law_init 7 = .ok (.putfield 9, 3) := by decide +kernel
theorem d_Law_init_10 : decode b_Law_init 10 = .ok (.aload_n 0, 1) := by decide +kernel
theorem d_Law_init_11 : decode b_Law_init 11 = .ok (.bipush 8, 2) := by decide +kernel
theorem d_Law_init_13 : decode b_Law_init 13 = .ok (.putfield 15, 3) := by decide +kernel
theorem d_Law_init_16 : decode b_Law_init 16 = .ok (.aload_n 0, 1) := by decide +kernel
theorem d_Law_init_17 : decode b_Law_init 17 = .ok (.iload_n 1, 1) := by decide +kernel
theorem d_Law_init_18 : decode b_Law_init 18 = .ok (.putfield 18, 3) := by decide +kernel
theorem d_Law_init_21 : decode b_Law_init 21 = .ok (.aload_n 0, 1) := by decide +kernel
theorem d_Law_init_22 : decode b_Law_init 22 = .ok (.iload_n 2, 1) := by decide +kernel
theorem d_Law_init_23 : decode b_Law_init 23 = .ok (.putfield 21, 3) := by decide +kernel
theorem d_Law_init_26 : decode b_Law_init 26 = .ok (.return_, 1) := by decide +kernel
theorem d_Board_init_0 : decode b_Board_init 0 = .ok (.aload_n 0, 1) := by decide +kernel
theorem d_Board_init_1 : decode b_Board_init 1 = .ok (.invokespecial 3, 3) := by decide +kernel
theorem d_Board_init_4 : decode b_Board_init 4 = .ok (.aload_n 0, 1) := by decide +kernel
theorem d_Board_init_5 : decode b_Board_init 5 = .ok (.bipush 8, 2) := by decide +kernel
theorem d_Board_init_7 : decode b_Board_init 7 = .ok (.newarray .int, 2) := by decide +kernel
theorem d_Board_init_9 : decode b_Board_init 9 = .ok (.putfield 9, 3) := by decide +kernel
theorem d_Board_init_12 : decode b_Board_init 12 = .ok (.aload_n 0, 1) := by decide +kernel
theorem d_Board_init_13 : decode b_Board_init 13 = .ok (.bipush 8, 2) := by decide +kernel
theorem d_Board_init_15 : decode b_Board_init 15 = .ok (.bipush 6, 2) := by decide +kernel
theorem d_Board_init_17 : decode b_Board_init 17 = .ok (.multianewarray 15 2, 4) := by decide +kernel
theorem d_Board_init_21 : decode b_Board_init 21 = .ok (.putfield 17, 3) := by decide +kernel
theorem d_Board_init_24 : decode b_Board_init 24 = .ok (.aload_n 0, 1) := by decide +kernel
theorem d_Board_init_25 : decode b_Board_init 25 = .ok (.bipush 8, 2) := by decide +kernel
theorem d_Board_init_27 : decode b_Board_init 27 = .ok (.newarray .long, 2) := by decide +kernel
theorem d_Board_init_29 : decode b_Board_init 29 = .ok (.putfield 20, 3) := by decide +kernel
theorem d_Board_init_32 : decode b_Board_init 32 = .ok (.aload_n 0, 1) := by decide +kernel
theorem d_Board_init_33 : decode b_Board_init 33 = .ok (.bipush 9, 2) := by decide +kernel
theorem d_Board_init_35 : decode b_Board_init 35 = .ok (.bipush 6, 2) := by decide +kernel
theorem d_Board_init_37 : decode b_Board_init 37 = .ok (.multianewarray 24 2, 4) := by decide +kernel
theorem d_Board_init_41 : decode b_Board_init 41 = .ok (.putfield 26, 3) := by decide +kernel
theorem d_Board_init_44 : decode b_Board_init 44 = .ok (.aload_n 0, 1) := by decide +kernel
theorem d_Board_init_45 : decode b_Board_init 45 = .ok (.aload_n 1, 1) := by decide +kernel
theorem d_Board_init_46 : decode b_Board_init 46 = .ok (.putfield 29, 3) := by decide +kernel
theorem d_Board_init_49 : decode b_Board_init 49 = .ok (.return_, 1) := by decide +kernel
theorem d_Search_init_0 : decode b_Search_init 0 = .ok (.aload_n 0, 1) := by decide +kernel
theorem d_Search_init_1 : decode b_Search_init 1 = .ok (.invokespecial 3, 3) := by decide +kernel
theorem d_Search_init_4 : decode b_Search_init 4 = .ok (.aload_n 0, 1) := by decide +kernel
theorem d_Search_init_5 : decode b_Search_init 5 = .ok (.aload_n 1, 1) := by decide +kernel
theorem d_Search_init_6 : decode b_Search_init 6 = .ok (.putfield 9, 3) := by decide +kernel
theorem d_Search_init_9 : decode b_Search_init 9 = .ok (.aload_n 0, 1) := by decide +kernel
theorem d_Search_init_10 : decode b_Search_init 10 = .ok (.aload_n 2, 1) := by decide +kernel
theorem d_Search_init_11 : decode b_Search_init 11 = .ok (.putfield 15, 3) := by decide +kernel
theorem d_Search_init_14 : decode b_Search_init 14 = .ok (.return_, 1) := by decide +kernel
theorem d_Rows_init_0 : decode b_Rows_init 0 = .ok (.aload_n 0, 1) := by decide +kernel
theorem d_Rows_init_1 : decode b_Rows_init 1 = .ok (.invokespecial 3, 3) := by decide +kernel
theorem d_Rows_init_4 : decode b_Rows_init 4 = .ok (.aload_n 0, 1) := by decide +kernel
theorem d_Rows_init_5 : decode b_Rows_init 5 = .ok (.bipush 6, 2) := by decide +kernel
theorem d_Rows_init_7 : decode b_Rows_init 7 = .ok (.sipush 512, 3) := by decide +kernel
theorem d_Rows_init_10 : decode b_Rows_init 10 = .ok (.multianewarray 9 2, 4) := by decide +kernel
theorem d_Rows_init_14 : decode b_Rows_init 14 = .ok (.putfield 11, 3) := by decide +kernel
theorem d_Rows_init_17 : decode b_Rows_init 17 = .ok (.aload_n 0, 1) := by decide +kernel
theorem d_Rows_init_18 : decode b_Rows_init 18 = .ok (.aload_n 1, 1) := by decide +kernel
theorem d_Rows_init_19 : decode b_Rows_init 19 = .ok (.putfield 16, 3) := by decide +kernel
theorem d_Rows_init_22 : decode b_Rows_init 22 = .ok (.aload_n 0, 1) := by decide +kernel
theorem d_Rows_init_23 : decode b_Rows_init 23 = .ok (.aload_n 2, 1) := by decide +kernel
theorem d_Rows_init_24 : decode b_Rows_init 24 = .ok (.putfield 20, 3) := by decide +kernel
theorem d_Rows_init_27 : decode b_Rows_init 27 = .ok (.return_, 1) := by decide +kernel
theorem d_MK_tries_0 : decode b_MK_tries 0 = .ok (.aload_n 0, 1) := by decide +kernel
theorem d_MK_tries_1 : decode b_MK_tries 1 = .ok (.getfield 41, 3) := by decide +kernel
theorem d_MK_tries_4 : decode b_MK_tries 4 = .ok (.getfield 118, 3) := by decide +kernel
theorem d_MK_tries_7 : decode b_MK_tries 7 = .ok (.ireturn, 1) := by decide +kernel
theorem d_MK_wrong_0 : decode b_MK_wrong 0 = .ok (.aload_n 0, 1) := by decide +kernel
theorem d_MK_wrong_1 : decode b_MK_wrong 1 = .ok (.getfield 63, 3) := by decide +kernel
theorem d_MK_wrong_4 : decode b_MK_wrong 4 = .ok (.ifCond .ne 5, 3) := by decide +kernel
theorem d_MK_wrong_7 : decode b_MK_wrong 7 = .ok (.iconst (-1), 1) := by decide +kernel
theorem d_MK_wrong_8 : decode b_MK_wrong 8 = .ok (.ireturn, 1) := by decide +kernel
theorem d_MK_wrong_9 : decode b_MK_wrong 9 = .ok (.iconst 0, 1) := by decide +kernel
theorem d_MK_wrong_10 : decode b_MK_wrong 10 = .ok (.istore_n 1, 1) := by decide +kernel
theorem d_MK_wrong_11 : decode b_MK_wrong 11 = .ok (.iconst 0, 1) := by decide +kernel
theorem d_MK_wrong_12 : decode b_MK_wrong 12 = .ok (.istore_n 2, 1) := by decide +kernel
theorem d_MK_wrong_13 : decode b_MK_wrong 13 = .ok (.iload_n 2, 1) := by decide +kernel
theorem d_MK_wrong_14 : decode b_MK_wrong 14 = .ok (.aload_n 0, 1) := by decide +kernel
theorem d_MK_wrong_15 : decode b_MK_wrong 15 = .ok (.getfield 32, 3) := by decide +kernel
theorem d_MK_wrong_18 : decode b_MK_wrong 18 = .ok (.getfield 52, 3) := by decide +kernel
theorem d_MK_wrong_21 : decode b_MK_wrong 21 = .ok (.if_icmp .ge 33, 3) := by decide +kernel
theorem d_MK_wrong_24 : decode b_MK_wrong 24 = .ok (.iload_n 1, 1) := by decide +kernel
theorem d_MK_wrong_25 : decode b_MK_wrong 25 = .ok (.aload_n 0, 1) := by decide +kernel
theorem d_MK_wrong_26 : decode b_MK_wrong 26 = .ok (.getfield 32, 3) := by decide +kernel
theorem d_MK_wrong_29 : decode b_MK_wrong 29 = .ok (.iload_n 2, 1) := by decide +kernel
theorem d_MK_wrong_30 : decode b_MK_wrong 30 = .ok (.invokevirtual 131, 3) := by decide +kernel
theorem d_MK_wrong_33 : decode b_MK_wrong 33 = .ok (.aload_n 0, 1) := by decide +kernel
theorem d_MK_wrong_34 : decode b_MK_wrong 34 = .ok (.getfield 32, 3) := by decide +kernel
theorem d_MK_wrong_37 : decode b_MK_wrong 37 = .ok (.getfield 134, 3) := by decide +kernel
theorem d_MK_wrong_40 : decode b_MK_wrong 40 = .ok (.iload_n 2, 1) := by decide +kernel
theorem d_MK_wrong_41 : decode b_MK_wrong 41 = .ok (.iaload, 1) := by decide +kernel
theorem d_MK_wrong_42 : decode b_MK_wrong 42 = .ok (.ixor, 1) := by decide +kernel
theorem d_MK_wrong_43 : decode b_MK_wrong 43 = .ok (.invokestatic 138, 3) := by decide +kernel
theorem d_MK_wrong_46 : decode b_MK_wrong 46 = .ok (.iadd, 1) := by decide +kernel
theorem d_MK_wrong_47 : decode b_MK_wrong 47 = .ok (.istore_n 1, 1) := by decide +kernel
theorem d_MK_wrong_48 : decode b_MK_wrong 48 = .ok (.iinc 2 1, 3) := by decide +kernel
theorem d_MK_wrong_51 : decode b_MK_wrong 51 = .ok (.goto (-38), 3) := by decide +kernel
theorem d_MK_wrong_54 : decode b_MK_wrong 54 = .ok (.iload_n 1, 1) := by decide +kernel
theorem d_MK_wrong_55 : decode b_MK_wrong 55 = .ok (.ireturn, 1) := by decide +kernel
theorem d_Board_doorsOf_0 : decode b_Board_doorsOf 0 = .ok (.aload_n 0, 1) := by decide +kernel
theorem d_Board_doorsOf_1 : decode b_Board_doorsOf 1 = .ok (.aload_n 0, 1) := by decide +kernel
theorem d_Board_doorsOf_2 : decode b_Board_doorsOf 2 = .ok (.getfield 20, 3) := by decide +kernel
theorem d_Board_doorsOf_5 : decode b_Board_doorsOf 5 = .ok (.iload_n 1, 1) := by decide +kernel
theorem d_Board_doorsOf_6 : decode b_Board_doorsOf 6 = .ok (.laload, 1) := by decide +kernel
theorem d_Board_doorsOf_7 : decode b_Board_doorsOf 7 = .ok (.invokevirtual 41, 3) := by decide +kernel
theorem d_Board_doorsOf_10 : decode b_Board_doorsOf 10 = .ok (.ireturn, 1) := by decide +kernel
theorem d_Board_doorsFitted_0 : decode b_Board_doorsFitted 0 = .ok (.iconst 0, 1) := by decide +kernel
theorem d_Board_doorsFitted_1 : decode b_Board_doorsFitted 1 = .ok (.istore_n 3, 1) := by decide +kernel
theorem d_Board_doorsFitted_2 : decode b_Board_doorsFitted 2 = .ok (.iconst 0, 1) := by decide +kernel
theorem d_Board_doorsFitted_3 : decode b_Board_doorsFitted 3 = .ok (.istore 4, 2) := by decide +kernel
theorem d_Board_doorsFitted_5 : decode b_Board_doorsFitted 5 = .ok (.iload 4, 2) := by decide +kernel
theorem d_Board_doorsFitted_7 : decode b_Board_doorsFitted 7 = .ok (.aload_n 0, 1) := by decide +kernel
theorem d_Board_doorsFitted_8 : decode b_Board_doorsFitted 8 = .ok (.getfield 33, 3) := by decide +kernel
theorem d_Board_doorsFitted_11 : decode b_Board_doorsFitted 11 = .ok (.if_icmp .ge 35, 3) := by decide +kernel
theorem d_Board_doorsFitted_14 : decode b_Board_doorsFitted 14 = .ok (.lload_n 1, 1) := by decide +kernel
theorem d_Board_doorsFitted_15 : decode b_Board_doorsFitted 15 = .ok (.aload_n 0, 1) := by decide +kernel
theorem d_Board_doorsFitted_16 : decode b_Board_doorsFitted 16 = .ok (.getfield 26, 3) := by decide +kernel
theorem d_Board_doorsFitted_19 : decode b_Board_doorsFitted 19 = .ok (.aload_n 0, 1) := by decide +kernel
theorem d_Board_doorsFitted_20 : decode b_Board_doorsFitted 20 = .ok (.getfield 45, 3) := by decide +kernel
theorem d_Board_doorsFitted_23 : decode b_Board_doorsFitted 23 = .ok (.aaload, 1) := by decide +kernel
theorem d_Board_doorsFitted_24 : decode b_Board_doorsFitted 24 = .ok (.iload 4, 2) := by decide +kernel
theorem d_Board_doorsFitted_26 : decode b_Board_doorsFitted 26 = .ok (.laload, 1) := by decide +kernel
theorem d_Board_doorsFitted_27 : decode b_Board_doorsFitted 27 = .ok (.invokestatic 48, 3) := by decide +kernel
theorem d_Board_doorsFitted_30 : decode b_Board_doorsFitted 30 = .ok (.ifCond .eq 10, 3) := by decide +kernel
theorem d_Board_doorsFitted_33 : decode b_Board_doorsFitted 33 = .ok (.iload_n 3, 1) := by decide +kernel
theorem d_Board_doorsFitted_34 : decode b_Board_doorsFitted 34 = .ok (.iconst 1, 1) := by decide +kernel
theorem d_Board_doorsFitted_35 : decode b_Board_doorsFitted 35 = .ok (.iload 4, 2) := by decide +kernel
theorem d_Board_doorsFitted_37 : decode b_Board_doorsFitted 37 = .ok (.ishl, 1) := by decide +kernel
theorem d_Board_doorsFitted_38 : decode b_Board_doorsFitted 38 = .ok (.ior, 1) := by decide +kernel
theorem d_Board_doorsFitted_39 : decode b_Board_doorsFitted 39 = .ok (.istore_n 3, 1) := by decide +kernel
theorem d_Board_doorsFitted_40 : decode b_Board_doorsFitted 40 = .ok (.iinc 4 1, 3) := by decide +kernel
theorem d_Board_doorsFitted_43 : decode b_Board_doorsFitted 43 = .ok (.goto (-38), 3) := by decide +kernel
theorem d_Board_doorsFitted_46 : decode b_Board_doorsFitted 46 = .ok (.iload_n 3, 1) := by decide +kernel
theorem d_Board_doorsFitted_47 : decode b_Board_doorsFitted 47 = .ok (.ireturn, 1) := by decide +kernel
theorem d_Board_isWithin_0 : decode b_Board_isWithin 0 = .ok (.lload_n 0, 1) := by decide +kernel
theorem d_Board_isWithin_1 : decode b_Board_isWithin 1 = .ok (.lload_n 2, 1) := by decide +kernel
theorem d_Board_isWithin_2 : decode b_Board_isWithin 2 = .ok (.ldc2_w 94, 3) := by decide +kernel
theorem d_Board_isWithin_5 : decode b_Board_isWithin 5 = .ok (.lxor, 1) := by decide +kernel
theorem d_Board_isWithin_6 : decode b_Board_isWithin 6 = .ok (.land, 1) := by decide +kernel
theorem d_Board_isWithin_7 : decode b_Board_isWithin 7 = .ok (.lconst 0, 1) := by decide +kernel
theorem d_Board_isWithin_8 : decode b_Board_isWithin 8 = .ok (.lcmp, 1) := by decide +kernel
theorem d_Board_isWithin_9 : decode b_Board_isWithin 9 = .ok (.ifCond .ne 7, 3) := by decide +kernel
theorem d_Board_isWithin_12 : decode b_Board_isWithin 12 = .ok (.iconst 1, 1) := by decide +kernel
theorem d_Board_isWithin_13 : decode b_Board_isWithin 13 = .ok (.goto 4, 3) := by decide +kernel
theorem d_Board_isWithin_16 : decode b_Board_isWithin 16 = .ok (.iconst 0, 1) := by decide +kernel
theorem d_Board_isWithin_17 : decode b_Board_isWithin 17 = .ok (.ireturn, 1) := by decide +kernel
theorem d_JI_bitCount_0 : decode b_JI_bitCount 0 = .ok (.iload_n 0, 1) := by decide +kernel
theorem d_JI_bitCount_1 : decode b_JI_bitCount 1 = .ok (.iload_n 0, 1) := by decide +kernel
theorem d_JI_bitCount_2 : decode b_JI_bitCount 2 = .ok (.iconst 1, 1) := by decide +kernel
theorem d_JI_bitCount_3 : decode b_JI_bitCount 3 = .ok (.iushr, 1) := by decide +kernel
theorem d_JI_bitCount_4 : decode b_JI_bitCount 4 = .ok (.ldc_w 265, 3) := by decide +kernel
theorem d_JI_bitCount_7 : decode b_JI_bitCount 7 = .ok (.iand, 1) := by decide +kernel
theorem d_JI_bitCount_8 : decode b_JI_bitCount 8 = .ok (.isub, 1) := by decide +kernel
theorem d_JI_bitCount_9 : decode b_JI_bitCount 9 = .ok (.istore_n 0, 1) := by decide +kernel
theorem d_JI_bitCount_10 : decode b_JI_bitCount 10 = .ok (.iload_n 0, 1) := by decide +kernel
theorem d_JI_bitCount_11 : decode b_JI_bitCount 11 = .ok (.ldc_w 266, 3) := by decide +kernel
theorem d_JI_bitCount_14 : decode b_JI_bitCount 14 = .ok (.iand, 1) := by decide +kernel
theorem d_JI_bitCount_15 : decode b_JI_bitCount 15 = .ok (.iload_n 0, 1) := by decide +kernel
theorem d_JI_bitCount_16 : decode b_JI_bitCount 16 = .ok (.iconst 2, 1) := by decide +kernel
theorem d_JI_bitCount_17 : decode b_JI_bitCount 17 = .ok (.iushr, 1) := by decide +kernel
theorem d_JI_bitCount_18 : decode b_JI_bitCount 18 = .ok (.ldc_w 266, 3) := by decide +kernel
theorem d_JI_bitCount_21 : decode b_JI_bitCount 21 = .ok (.iand, 1) := by decide +kernel
theorem d_JI_bitCount_22 : decode b_JI_bitCount 22 = .ok (.iadd, 1) := by decide +kernel
theorem d_JI_bitCount_23 : decode b_JI_bitCount 23 = .ok (.istore_n 0, 1) := by decide +kernel
theorem d_JI_bitCount_24 : decode b_JI_bitCount 24 = .ok (.iload_n 0, 1) := by decide +kernel
theorem d_JI_bitCount_25 : decode b_JI_bitCount 25 = .ok (.iload_n 0, 1) := by decide +kernel
theorem d_JI_bitCount_26 : decode b_JI_bitCount 26 = .ok (.iconst 4, 1) := by decide +kernel
theorem d_JI_bitCount_27 : decode b_JI_bitCount 27 = .ok (.iushr, 1) := by decide +kernel
theorem d_JI_bitCount_28 : decode b_JI_bitCount 28 = .ok (.iadd, 1) := by decide +kernel
theorem d_JI_bitCount_29 : decode b_JI_bitCount 29 = .ok (.ldc_w 267, 3) := by decide +kernel
theorem d_JI_bitCount_32 : decode b_JI_bitCount 32 = .ok (.iand, 1) := by decide +kernel
theorem d_JI_bitCount_33 : decode b_JI_bitCount 33 = .ok (.istore_n 0, 1) := by decide +kernel
theorem d_JI_bitCount_34 : decode b_JI_bitCount 34 = .ok (.iload_n 0, 1) := by decide +kernel
theorem d_JI_bitCount_35 : decode b_JI_bitCount 35 = .ok (.iload_n 0, 1) := by decide +kernel
theorem d_JI_bitCount_36 : decode b_JI_bitCount 36 = .ok (.bipush 8, 2) := by decide +kernel
theorem d_JI_bitCount_38 : decode b_JI_bitCount 38 = .ok (.iushr, 1) := by decide +kernel
theorem d_JI_bitCount_39 : decode b_JI_bitCount 39 = .ok (.iadd, 1) := by decide +kernel
theorem d_JI_bitCount_40 : decode b_JI_bitCount 40 = .ok (.istore_n 0, 1) := by decide +kernel
theorem d_JI_bitCount_41 : decode b_JI_bitCount 41 = .ok (.iload_n 0, 1) := by decide +kernel
theorem d_JI_bitCount_42 : decode b_JI_bitCount 42 = .ok (.iload_n 0, 1) := by decide +kernel
theorem d_JI_bitCount_43 : decode b_JI_bitCount 43 = .ok (.bipush 16, 2) := by decide +kernel
theorem d_JI_bitCount_45 : decode b_JI_bitCount 45 = .ok (.iushr, 1) := by decide +kernel
theorem d_JI_bitCount_46 : decode b_JI_bitCount 46 = .ok (.iadd, 1) := by decide +kernel
theorem d_JI_bitCount_47 : decode b_JI_bitCount 47 = .ok (.istore_n 0, 1) := by decide +kernel
theorem d_JI_bitCount_48 : decode b_JI_bitCount 48 = .ok (.iload_n 0, 1) := by decide +kernel
theorem d_JI_bitCount_49 : decode b_JI_bitCount 49 = .ok (.bipush 63, 2) := by decide +kernel
theorem d_JI_bitCount_51 : decode b_JI_bitCount 51 = .ok (.iand, 1) := by decide +kernel
theorem d_JI_bitCount_52 : decode b_JI_bitCount 52 = .ok (.ireturn, 1) := by decide +kernel
theorem d_MK_key_0 : decode b_MK_key 0 = .ok (.aload_n 0, 1) := by decide +kernel
theorem d_MK_key_1 : decode b_MK_key 1 = .ok (.getfield 32, 3) := by decide +kernel
theorem d_MK_key_4 : decode b_MK_key 4 = .ok (.getfield 52, 3) := by decide +kernel
theorem d_MK_key_7 : decode b_MK_key 7 = .ok (.bipush 8, 2) := by decide +kernel
theorem d_MK_key_9 : decode b_MK_key 9 = .ok (.if_icmp .lt 13, 3) := by decide +kernel
theorem d_MK_key_12 : decode b_MK_key 12 = .ok (.new 56, 3) := by decide +kernel
theorem d_MK_key_15 : decode b_MK_key 15 = .ok (.dup, 1) := by decide +kernel
theorem d_MK_key_16 : decode b_MK_key 16 = .ok (.ldc 58, 2) := by decide +kernel
theorem d_MK_key_18 : decode b_MK_key 18 = .ok (.invokespecial 60, 3) := by decide +kernel
theorem d_MK_key_21 : decode b_MK_key 21 = .ok (.athrow, 1) := by decide +kernel
theorem d_MK_key_22 : decode b_MK_key 22 = .ok (.aload_n 0, 1) := by decide +kernel
theorem d_MK_key_23 : decode b_MK_key 23 = .ok (.iconst 0, 1) := by decide +kernel
theorem d_MK_key_24 : decode b_MK_key 24 = .ok (.putfield 63, 3) := by decide +kernel
theorem d_MK_key_27 : decode b_MK_key 27 = .ok (.aload_n 0, 1) := by decide +kernel
theorem d_MK_key_28 : decode b_MK_key 28 = .ok (.getfield 32, 3) := by decide +kernel
theorem d_MK_key_31 : decode b_MK_key 31 = .ok (.dup, 1) := by decide +kernel
theorem d_MK_key_32 : decode b_MK_key 32 = .ok (.getfield 52, 3) := by decide +kernel
theorem d_MK_key_35 : decode b_MK_key 35 = .ok (.iconst 1, 1) := by decide +kernel
theorem d_MK_key_36 : decode b_MK_key 36 = .ok (.iadd, 1) := by decide +kernel
theorem d_MK_key_37 : decode b_MK_key 37 = .ok (.putfield 52, 3) := by decide +kernel
theorem d_MK_key_40 : decode b_MK_key 40 = .ok (.aload_n 0, 1) := by decide +kernel
theorem d_MK_key_41 : decode b_MK_key 41 = .ok (.getfield 32, 3) := by decide +kernel
theorem d_MK_key_44 : decode b_MK_key 44 = .ok (.getfield 52, 3) := by decide +kernel
theorem d_MK_key_47 : decode b_MK_key 47 = .ok (.iconst 1, 1) := by decide +kernel
theorem d_MK_key_48 : decode b_MK_key 48 = .ok (.isub, 1) := by decide +kernel
theorem d_MK_key_49 : decode b_MK_key 49 = .ok (.ireturn, 1) := by decide +kernel
theorem d_MK_door_0 : decode b_MK_door 0 = .ok (.aload_n 0, 1) := by decide +kernel
theorem d_MK_door_1 : decode b_MK_door 1 = .ok (.getfield 32, 3) := by decide +kernel
theorem d_MK_door_4 : decode b_MK_door 4 = .ok (.getfield 67, 3) := by decide +kernel
theorem d_MK_door_7 : decode b_MK_door 7 = .ok (.bipush 6, 2) := by decide +kernel
theorem d_MK_door_9 : decode b_MK_door 9 = .ok (.if_icmp .lt 13, 3) := by decide +kernel
theorem d_MK_door_12 : decode b_MK_door 12 = .ok (.new 56, 3) := by decide +kernel
theorem d_MK_door_15 : decode b_MK_door 15 = .ok (.dup, 1) := by decide +kernel
theorem d_MK_door_16 : decode b_MK_door 16 = .ok (.ldc 70, 2) := by decide +kernel
theorem d_MK_door_18 : decode b_MK_door 18 = .ok (.invokespecial 60, 3) := by decide +kernel
theorem d_MK_door_21 : decode b_MK_door 21 = .ok (.athrow, 1) := by decide +kernel
theorem d_MK_door_22 : decode b_MK_door 22 = .ok (.aload_n 0, 1) := by decide +kernel
theorem d_MK_door_23 : decode b_MK_door 23 = .ok (.iconst 0, 1) := by decide +kernel
theorem d_MK_door_24 : decode b_MK_door 24 = .ok (.putfield 63, 3) := by decide +kernel
theorem d_MK_door_27 : decode b_MK_door 27 = .ok (.aload_n 0, 1) := by decide +kernel
theorem d_MK_door_28 : decode b_MK_door 28 = .ok (.getfield 32, 3) := by decide +kernel
theorem d_MK_door_31 : decode b_MK_door 31 = .ok (.dup, 1) := by decide +kernel
theorem d_MK_door_32 : decode b_MK_door 32 = .ok (.getfield 67, 3) := by decide +kernel
theorem d_MK_door_35 : decode b_MK_door 35 = .ok (.iconst 1, 1) := by decide +kernel
theorem d_MK_door_36 : decode b_MK_door 36 = .ok (.iadd, 1) := by decide +kernel
theorem d_MK_door_37 : decode b_MK_door 37 = .ok (.putfield 67, 3) := by decide +kernel
theorem d_MK_door_40 : decode b_MK_door 40 = .ok (.aload_n 0, 1) := by decide +kernel
theorem d_MK_door_41 : decode b_MK_door 41 = .ok (.getfield 32, 3) := by decide +kernel
theorem d_MK_door_44 : decode b_MK_door 44 = .ok (.getfield 67, 3) := by decide +kernel
theorem d_MK_door_47 : decode b_MK_door 47 = .ok (.iconst 1, 1) := by decide +kernel
theorem d_MK_door_48 : decode b_MK_door 48 = .ok (.isub, 1) := by decide +kernel
theorem d_MK_door_49 : decode b_MK_door 49 = .ok (.ireturn, 1) := by decide +kernel
theorem d_MK_must_0 : decode b_MK_must 0 = .ok (.aload_n 0, 1) := by decide +kernel
theorem d_MK_must_1 : decode b_MK_must 1 = .ok (.iload_n 1, 1) := by decide +kernel
theorem d_MK_must_2 : decode b_MK_must 2 = .ok (.invokevirtual 72, 3) := by decide +kernel
theorem d_MK_must_5 : decode b_MK_must 5 = .ok (.aload_n 0, 1) := by decide +kernel
theorem d_MK_must_6 : decode b_MK_must 6 = .ok (.iload_n 2, 1) := by decide +kernel
theorem d_MK_must_7 : decode b_MK_must 7 = .ok (.invokevirtual 76, 3) := by decide +kernel
theorem d_MK_must_10 : decode b_MK_must 10 = .ok (.aload_n 0, 1) := by decide +kernel
theorem d_MK_must_11 : decode b_MK_must 11 = .ok (.iconst 0, 1) := by decide +kernel
theorem d_MK_must_12 : decode b_MK_must 12 = .ok (.putfield 63, 3) := by decide +kernel
theorem d_MK_must_15 : decode b_MK_must 15 = .ok (.aload_n 0, 1) := by decide +kernel
theorem d_MK_must_16 : decode b_MK_must 16 = .ok (.getfield 32, 3) := by decide +kernel
theorem d_MK_must_19 : decode b_MK_must 19 = .ok (.iload_n 1, 1) := by decide +kernel
theorem d_MK_must_20 : decode b_MK_must 20 = .ok (.iload_n 2, 1) := by decide +kernel
theorem d_MK_must_21 : decode b_MK_must 21 = .ok (.invokevirtual 79, 3) := by decide +kernel
theorem d_MK_must_24 : decode b_MK_must 24 = .ok (.istore 4, 2) := by decide +kernel
theorem d_MK_must_26 : decode b_MK_must 26 = .ok (.aload_n 0, 1) := by decide +kernel
theorem d_MK_must_27 : decode b_MK_must 27 = .ok (.getfield 32, 3) := by decide +kernel
theorem d_MK_must_30 : decode b_MK_must 30 = .ok (.iload_n 1, 1) := by decide +kernel
theorem d_MK_must_31 : decode b_MK_must 31 = .ok (.iload_n 2, 1) := by decide +kernel
theorem d_MK_must_32 : decode b_MK_must 32 = .ok (.iload_n 3, 1) := by decide +kernel
theorem d_MK_must_33 : decode b_MK_must 33 = .ok (.invokevirtual 83, 3) := by decide +kernel
theorem d_MK_must_36 : decode b_MK_must 36 = .ok (.iload 4, 2) := by decide +kernel
theorem d_MK_must_38 : decode b_MK_must 38 = .ok (.ireturn, 1) := by decide +kernel
theorem d_MK_needKey_0 : decode b_MK_needKey 0 = .ok (.iload_n 1, 1) := by decide +kernel
theorem d_MK_needKey_1 : decode b_MK_needKey 1 = .ok (.ifCond .lt 14, 3) := by decide +kernel
theorem d_MK_needKey_4 : decode b_MK_needKey 4 = .ok (.iload_n 1, 1) := by decide +kernel
theorem d_MK_needKey_5 : decode b_MK_needKey 5 = .ok (.aload_n 0, 1) := by decide +kernel
theorem d_MK_needKey_6 : decode b_MK_needKey 6 = .ok (.getfield 32, 3) := by decide +kernel
theorem d_MK_needKey_9 : decode b_MK_needKey 9 = .ok (.getfield 52, 3) := by decide +kernel
theorem d_MK_needKey_12 : decode b_MK_needKey 12 = .ok (.if_icmp .lt 13, 3) := by decide +kernel
theorem d_MK_needKey_15 : decode b_MK_needKey 15 = .ok (.new 87, 3) := by decide +kernel
theorem d_MK_needKey_18 : decode b_MK_needKey 18 = .ok (.dup, 1) := by decide +kernel
theorem d_MK_needKey_19 : decode b_MK_needKey 19 = .ok (.ldc 162, 2) := by decide +kernel
theorem d_MK_needKey_21 : decode b_MK_needKey 21 = .ok (.invokespecial 91, 3) := by decide +kernel
theorem d_MK_needKey_24 : decode b_MK_needKey 24 = .ok (.athrow, 1) := by decide +kernel
theorem d_MK_needKey_25 : decode b_MK_needKey 25 = .ok (.return_, 1) := by decide +kernel
theorem d_MK_needDoor_0 : decode b_MK_needDoor 0 = .ok (.iload_n 1, 1) := by decide +kernel
theorem d_MK_needDoor_1 : decode b_MK_needDoor 1 = .ok (.ifCond .lt 14, 3) := by decide +kernel
theorem d_MK_needDoor_4 : decode b_MK_needDoor 4 = .ok (.iload_n 1, 1) := by decide +kernel
theorem d_MK_needDoor_5 : decode b_MK_needDoor 5 = .ok (.aload_n 0, 1) := by decide +kernel
theorem d_MK_needDoor_6 : decode b_MK_needDoor 6 = .ok (.getfield 32, 3) := by decide +kernel
theorem d_MK_needDoor_9 : decode b_MK_needDoor 9 = .ok (.getfield 67, 3) := by decide +kernel
theorem d_MK_needDoor_12 : decode b_MK_needDoor 12 = .ok (.if_icmp .lt 13, 3) := by decide +kernel
theorem d_MK_needDoor_15 : decode b_MK_needDoor 15 = .ok (.new 87, 3) := by decide +kernel
theorem d_MK_needDoor_18 : decode b_MK_needDoor 18 = .ok (.dup, 1) := by decide +kernel
theorem d_MK_needDoor_19 : decode b_MK_needDoor 19 = .ok (.ldc 164, 2) := by decide +kernel
theorem d_MK_needDoor_21 : decode b_MK_needDoor 21 = .ok (.invokespecial 91, 3) := by decide +kernel
theorem d_MK_needDoor_24 : decode b_MK_needDoor 24 = .ok (.athrow, 1) := by decide +kernel
theorem d_MK_needDoor_25 : decode b_MK_needDoor 25 = .ok (.return_, 1) := by decide +kernel
theorem d_Board_mustOpen_0 : decode b_Board_mustOpen 0 = .ok (.aload_n 0, 1) := by decide +kernel
theorem d_Board_mustOpen_1 : decode b_Board_mustOpen 1 = .ok (.getfield 9, 3) := by decide +kernel
theorem d_Board_mustOpen_4 : decode b_Board_mustOpen 4 = .ok (.iload_n 1, 1) := by decide +kernel
theorem d_Board_mustOpen_5 : decode b_Board_mustOpen 5 = .ok (.iaload, 1) := by decide +kernel
theorem d_Board_mustOpen_6 : decode b_Board_mustOpen 6 = .ok (.iload_n 2, 1) := by decide +kernel
theorem d_Board_mustOpen_7 : decode b_Board_mustOpen 7 = .ok (.ishr, 1) := by decide +kernel
theorem d_Board_mustOpen_8 : decode b_Board_mustOpen 8 = .ok (.iconst 1, 1) := by decide +kernel
theorem d_Board_mustOpen_9 : decode b_Board_mustOpen 9 = .ok (.iand, 1) := by decide +kernel
theorem d_Board_mustOpen_10 : decode b_Board_mustOpen 10 = .ok (.ifCond .eq 7, 3) := by decide +kernel
theorem d_Board_mustOpen_13 : decode b_Board_mustOpen 13 = .ok (.iconst 1, 1) := by decide +kernel
theorem d_Board_mustOpen_14 : decode b_Board_mustOpen 14 = .ok (.goto 4, 3) := by decide +kernel
theorem d_Board_mustOpen_17 : decode b_Board_mustOpen 17 = .ok (.iconst 0, 1) := by decide +kernel
theorem d_Board_mustOpen_18 : decode b_Board_mustOpen 18 = .ok (.ireturn, 1) := by decide +kernel
theorem d_Board_tell_0 : decode b_Board_tell 0 = .ok (.iload_n 3, 1) := by decide +kernel
theorem d_Board_tell_1 : decode b_Board_tell 1 = .ok (.ifCond .eq 18, 3) := by decide +kernel
theorem d_Board_tell_4 : decode b_Board_tell 4 = .ok (.aload_n 0, 1) := by decide +kernel
theorem d_Board_tell_5 : decode b_Board_tell 5 = .ok (.getfield 9, 3) := by decide +kernel
theorem d_Board_tell_8 : decode b_Board_tell 8 = .ok (.iload_n 1, 1) := by decide +kernel
theorem d_Board_tell_9 : decode b_Board_tell 9 = .ok (.dup2, 1) := by decide +kernel
theorem d_Board_tell_10 : decode b_Board_tell 10 = .ok (.iaload, 1) := by decide +kernel
theorem d_Board_tell_11 : decode b_Board_tell 11 = .ok (.iconst 1, 1) := by decide +kernel
theorem d_Board_tell_12 : decode b_Board_tell 12 = .ok (.iload_n 2, 1) := by decide +kernel
theorem d_Board_tell_13 : decode b_Board_tell 13 = .ok (.ishl, 1) := by decide +kernel
theorem d_Board_tell_14 : decode b_Board_tell 14 = .ok (.ior, 1) := by decide +kernel
theorem d_Board_tell_15 : decode b_Board_tell 15 = .ok (.iastore, 1) := by decide +kernel
theorem d_Board_tell_16 : decode b_Board_tell 16 = .ok (.goto 17, 3) := by decide +kernel
theorem d_Board_tell_19 : decode b_Board_tell 19 = .ok (.aload_n 0, 1) := by decide +kernel
theorem d_Board_tell_20 : decode b_Board_tell 20 = .ok (.getfield 9, 3) := by decide +kernel
theorem d_Board_tell_23 : decode b_Board_tell 23 = .ok (.iload_n 1, 1) := by decide +kernel
theorem d_Board_tell_24 : decode b_Board_tell 24 = .ok (.dup2, 1) := by decide +kernel
theorem d_Board_tell_25 : decode b_Board_tell 25 = .ok (.iaload, 1) := by decide +kernel
theorem d_Board_tell_26 : decode b_Board_tell 26 = .ok (.iconst 1, 1) := by decide +kernel
theorem d_Board_tell_27 : decode b_Board_tell 27 = .ok (.iload_n 2, 1) := by decide +kernel
theorem d_Board_tell_28 : decode b_Board_tell 28 = .ok (.ishl, 1) := by decide +kernel
theorem d_Board_tell_29 : decode b_Board_tell 29 = .ok (.iconst (-1), 1) := by decide +kernel
theorem d_Board_tell_30 : decode b_Board_tell 30 = .ok (.ixor, 1) := by decide +kernel
theorem d_Board_tell_31 : decode b_Board_tell 31 = .ok (.iand, 1) := by decide +kernel
theorem d_Board_tell_32 : decode b_Board_tell 32 = .ok (.iastore, 1) := by decide +kernel
theorem d_Board_tell_33 : decode b_Board_tell 33 = .ok (.return_, 1) := by decide +kernel
theorem d_MK_step_0 : decode b_MK_step 0 = .ok (.iload_n 1, 1) := by decide +kernel
theorem d_MK_step_1 : decode b_MK_step 1 = .ok (.ifCond .lt 9, 3) := by decide +kernel
theorem d_MK_step_4 : decode b_MK_step 4 = .ok (.iload_n 1, 1) := by decide +kernel
theorem d_MK_step_5 : decode b_MK_step 5 = .ok (.bipush 7, 2) := by decide +kernel
theorem d_MK_step_7 : decode b_MK_step 7 = .ok (.if_icmp .le 13, 3) := by decide +kernel
theorem d_MK_step_10 : decode b_MK_step 10 = .ok (.new 87, 3) := by decide +kernel
theorem d_MK_step_13 : decode b_MK_step 13 = .ok (.dup, 1) := by decide +kernel
theorem d_MK_step_14 : decode b_MK_step 14 = .ok (.ldc 89, 2) := by decide +kernel
theorem d_MK_step_16 : decode b_MK_step 16 = .ok (.invokespecial 91, 3) := by decide +kernel
theorem d_MK_step_19 : decode b_MK_step 19 = .ok (.athrow, 1) := by decide +kernel
theorem d_MK_step_20 : decode b_MK_step 20 = .ok (.aload_n 0, 1) := by decide +kernel
theorem d_MK_step_21 : decode b_MK_step 21 = .ok (.iconst 0, 1) := by decide +kernel
theorem d_MK_step_22 : decode b_MK_step 22 = .ok (.putfield 63, 3) := by decide +kernel
theorem d_MK_step_25 : decode b_MK_step 25 = .ok (.aload_n 0, 1) := by decide +kernel
theorem d_MK_step_26 : decode b_MK_step 26 = .ok (.getfield 23, 3) := by decide +kernel
theorem d_MK_step_29 : decode b_MK_step 29 = .ok (.getfield 92, 3) := by decide +kernel
theorem d_MK_step_32 : decode b_MK_step 32 = .ok (.istore_n 2, 1) := by decide +kernel
theorem d_MK_step_33 : decode b_MK_step 33 = .ok (.aload_n 0, 1) := by decide +kernel
theorem d_MK_step_34 : decode b_MK_step 34 = .ok (.getfield 23, 3) := by decide +kernel
theorem d_MK_step_37 : decode b_MK_step 37 = .ok (.iload_n 1, 1) := by decide +kernel
theorem d_MK_step_38 : decode b_MK_step 38 = .ok (.putfield 92, 3) := by decide +kernel
theorem d_MK_step_41 : decode b_MK_step 41 = .ok (.iload_n 2, 1) := by decide +kernel
theorem d_MK_step_42 : decode b_MK_step 42 = .ok (.ireturn, 1) := by decide +kernel
theorem d_MK_bar_0 : decode b_MK_bar 0 = .ok (.aload_n 0, 1) := by decide +kernel
theorem d_MK_bar_1 : decode b_MK_bar 1 = .ok (.iload_n 1, 1) := by decide +kernel
theorem d_MK_bar_2 : decode b_MK_bar 2 = .ok (.invokevirtual 95, 3) := by decide +kernel
theorem d_MK_bar_5 : decode b_MK_bar 5 = .ok (.aload_n 0, 1) := by decide +kernel
theorem d_MK_bar_6 : decode b_MK_bar 6 = .ok (.iload_n 2, 1) := by decide +kernel
theorem d_MK_bar_7 : decode b_MK_bar 7 = .ok (.invokevirtual 95, 3) := by decide +kernel
theorem d_MK_bar_10 : decode b_MK_bar 10 = .ok (.aload_n 0, 1) := by decide +kernel
theorem d_MK_bar_11 : decode b_MK_bar 11 = .ok (.iconst 0, 1) := by decide +kernel
theorem d_MK_bar_12 : decode b_MK_bar 12 = .ok (.putfield 63, 3) := by decide +kernel
theorem d_MK_bar_15 : decode b_MK_bar 15 = .ok (.aload_n 0, 1) := by decide +kernel
theorem d_MK_bar_16 : decode b_MK_bar 16 = .ok (.getfield 23, 3) := by decide +kernel
theorem d_MK_bar_19 : decode b_MK_bar 19 = .ok (.iload_n 1, 1) := by decide +kernel
theorem d_MK_bar_20 : decode b_MK_bar 20 = .ok (.iload_n 2, 1) := by decide +kernel
theorem d_MK_bar_21 : decode b_MK_bar 21 = .ok (.invokevirtual 98, 3) := by decide +kernel
theorem d_MK_bar_24 : decode b_MK_bar 24 = .ok (.istore 4, 2) := by decide +kernel
theorem d_MK_bar_26 : decode b_MK_bar 26 = .ok (.aload_n 0, 1) := by decide +kernel
theorem d_MK_bar_27 : decode b_MK_bar 27 = .ok (.getfield 23, 3) := by decide +kernel
theorem d_MK_bar_30 : decode b_MK_bar 30 = .ok (.iload_n 1, 1) := by decide +kernel
theorem d_MK_bar_31 : decode b_MK_bar 31 = .ok (.iload_n 2, 1) := by decide +kernel
theorem d_MK_bar_32 : decode b_MK_bar 32 = .ok (.iload_n 3, 1) := by decide +kernel
theorem d_MK_bar_33 : decode b_MK_bar 33 = .ok (.invokevirtual 101, 3) := by decide +kernel
theorem d_MK_bar_36 : decode b_MK_bar 36 = .ok (.iload 4, 2) := by decide +kernel
theorem d_MK_bar_38 : decode b_MK_bar 38 = .ok (.ireturn, 1) := by decide +kernel
theorem d_MK_needDepth_0 : decode b_MK_needDepth 0 = .ok (.iload_n 1, 1) := by decide +kernel
theorem d_MK_needDepth_1 : decode b_MK_needDepth 1 = .ok (.ifCond .lt 14, 3) := by decide +kernel
theorem d_MK_needDepth_4 : decode b_MK_needDepth 4 = .ok (.iload_n 1, 1) := by decide +kernel
theorem d_MK_needDepth_5 : decode b_MK_needDepth 5 = .ok (.aload_n 0, 1) := by decide +kernel
theorem d_MK_needDepth_6 : decode b_MK_needDepth 6 = .ok (.getfield 23, 3) := by decide +kernel
theorem d_MK_needDepth_9 : decode b_MK_needDepth 9 = .ok (.getfield 171, 3) := by decide +kernel
theorem d_MK_needDepth_12 : decode b_MK_needDepth 12 = .ok (.if_icmp .lt 13, 3) := by decide +kernel
theorem d_MK_needDepth_15 : decode b_MK_needDepth 15 = .ok (.new 87, 3) := by decide +kernel
theorem d_MK_needDepth_18 : decode b_MK_needDepth 18 = .ok (.dup, 1) := by decide +kernel
theorem d_MK_needDepth_19 : decode b_MK_needDepth 19 = .ok (.ldc 174, 2) := by decide +kernel
theorem d_MK_needDepth_21 : decode b_MK_needDepth 21 = .ok (.invokespecial 91, 3) := by decide +kernel
theorem d_MK_needDepth_24 : decode b_MK_needDepth 24 = .ok (.athrow, 1) := by decide +kernel
theorem d_MK_needDepth_25 : decode b_MK_needDepth 25 = .ok (.return_, 1) := by decide +kernel
theorem d_Law_isBarred_0 : decode b_Law_isBarred 0 = .ok (.aload_n 0, 1) := by decide +kernel
theorem d_Law_isBarred_1 : decode b_Law_isBarred 1 = .ok (.getfield 24, 3) := by decide +kernel
theorem d_Law_isBarred_4 : decode b_Law_isBarred 4 = .ok (.iload_n 1, 1) := by decide +kernel
theorem d_Law_isBarred_5 : decode b_Law_isBarred 5 = .ok (.iload_n 2, 1) := by decide +kernel
theorem d_Law_isBarred_6 : decode b_Law_isBarred 6 = .ok (.invokestatic 28, 3) := by decide +kernel
theorem d_Law_isBarred_9 : decode b_Law_isBarred 9 = .ok (.land, 1) := by decide +kernel
theorem d_Law_isBarred_10 : decode b_Law_isBarred 10 = .ok (.lconst 0, 1) := by decide +kernel
theorem d_Law_isBarred_11 : decode b_Law_isBarred 11 = .ok (.lcmp, 1) := by decide +kernel
theorem d_Law_isBarred_12 : decode b_Law_isBarred 12 = .ok (.ifCond .eq 7, 3) := by decide +kernel
theorem d_Law_isBarred_15 : decode b_Law_isBarred 15 = .ok (.iconst 1, 1) := by decide +kernel
theorem d_Law_isBarred_16 : decode b_Law_isBarred 16 = .ok (.goto 4, 3) := by decide +kernel
theorem d_Law_isBarred_19 : decode b_Law_isBarred 19 = .ok (.iconst 0, 1) := by decide +kernel
theorem d_Law_isBarred_20 : decode b_Law_isBarred 20 = .ok (.ireturn, 1) := by decide +kernel
theorem d_Law_pairBit_0 : decode b_Law_pairBit 0 = .ok (.lconst 1, 1) := by decide +kernel
theorem d_Law_pairBit_1 : decode b_Law_pairBit 1 = .ok (.iload_n 0, 1) := by decide +kernel
theorem d_Law_pairBit_2 : decode b_Law_pairBit 2 = .ok (.bipush 8, 2) := by decide +kernel
theorem d_Law_pairBit_4 : decode b_Law_pairBit 4 = .ok (.imul, 1) := by decide +kernel
theorem d_Law_pairBit_5 : decode b_Law_pairBit 5 = .ok (.iload_n 1, 1) := by decide +kernel
theorem d_Law_pairBit_6 : decode b_Law_pairBit 6 = .ok (.iadd, 1) := by decide +kernel
theorem d_Law_pairBit_7 : decode b_Law_pairBit 7 = .ok (.lshl, 1) := by decide +kernel
theorem d_Law_pairBit_8 : decode b_Law_pairBit 8 = .ok (.lreturn, 1) := by decide +kernel
theorem d_Law_setBarred_0 : decode b_Law_setBarred 0 = .ok (.iload_n 3, 1) := by decide +kernel
theorem d_Law_setBarred_1 : decode b_Law_setBarred 1 = .ok (.ifCond .eq 20, 3) := by decide +kernel
theorem d_Law_setBarred_4 : decode b_Law_setBarred 4 = .ok (.aload_n 0, 1) := by decide +kernel
theorem d_Law_setBarred_5 : decode b_Law_setBarred 5 = .ok (.dup, 1) := by decide +kernel
theorem d_Law_setBarred_6 : decode b_Law_setBarred 6 = .ok (.getfield 24, 3) := by decide +kernel
theorem d_Law_setBarred_9 : decode b_Law_setBarred 9 = .ok (.iload_n 1, 1) := by decide +kernel
theorem d_Law_setBarred_10 : decode b_Law_setBarred 10 = .ok (.iload_n 2, 1) := by decide +kernel
theorem d_Law_setBarred_11 : decode b_Law_setBarred 11 = .ok (.invokestatic 28, 3) := by decide +kernel
theorem d_Law_setBarred_14 : decode b_Law_setBarred 14 = .ok (.lor, 1) := by decide +kernel
theorem d_Law_setBarred_15 : decode b_Law_setBarred 15 = .ok (.putfield 24, 3) := by decide +kernel
theorem d_Law_setBarred_18 : decode b_Law_setBarred 18 = .ok (.goto 21, 3) := by decide +kernel
theorem d_Law_setBarred_21 : decode b_Law_setBarred 21 = .ok (.aload_n 0, 1) := by decide +kernel
theorem d_Law_setBarred_22 : decode b_Law_setBarred 22 = .ok (.dup, 1) := by decide +kernel
theorem d_Law_setBarred_23 : decode b_Law_setBarred 23 = .ok (.getfield 24, 3) := by decide +kernel
theorem d_Law_setBarred_26 : decode b_Law_setBarred 26 = .ok (.iload_n 1, 1) := by decide +kernel
theorem d_Law_setBarred_27 : decode b_Law_setBarred 27 = .ok (.iload_n 2, 1) := by decide +kernel
theorem d_Law_setBarred_28 : decode b_Law_setBarred 28 = .ok (.invokestatic 28, 3) := by decide +kernel
theorem d_Law_setBarred_31 : decode b_Law_setBarred 31 = .ok (.ldc2_w 32, 3) := by decide +kernel
theorem d_Law_setBarred_34 : decode b_Law_setBarred 34 = .ok (.lxor, 1) := by decide +kernel
theorem d_Law_setBarred_35 : decode b_Law_setBarred 35 = .ok (.land, 1) := by decide +kernel
theorem d_Law_setBarred_36 : decode b_Law_setBarred 36 = .ok (.putfield 24, 3) := by decide +kernel
theorem d_Law_setBarred_39 : decode b_Law_setBarred 39 = .ok (.return_, 1) := by decide +kernel
theorem d_MK_top_0 : decode b_MK_top 0 = .ok (.iload_n 1, 1) := by decide +kernel
theorem d_MK_top_1 : decode b_MK_top 1 = .ok (.iconst 1, 1) := by decide +kernel
theorem d_MK_top_2 : decode b_MK_top 2 = .ok (.if_icmp .lt 9, 3) := by decide +kernel
theorem d_MK_top_5 : decode b_MK_top 5 = .ok (.iload_n 1, 1) := by decide +kernel
theorem d_MK_top_6 : decode b_MK_top 6 = .ok (.bipush 8, 2) := by decide +kernel
theorem d_MK_top_8 : decode b_MK_top 8 = .ok (.if_icmp .le 13, 3) := by decide +kernel
theorem d_MK_top_11 : decode b_MK_top 11 = .ok (.new 87, 3) := by decide +kernel
theorem d_MK_top_14 : decode b_MK_top 14 = .ok (.dup, 1) := by decide +kernel
theorem d_MK_top_15 : decode b_MK_top 15 = .ok (.ldc 104, 2) := by decide +kernel
theorem d_MK_top_17 : decode b_MK_top 17 = .ok (.invokespecial 91, 3) := by decide +kernel
theorem d_MK_top_20 : decode b_MK_top 20 = .ok (.athrow, 1) := by decide +kernel
theorem d_MK_top_21 : decode b_MK_top 21 = .ok (.aload_n 0, 1) := by decide +kernel
theorem d_MK_top_22 : decode b_MK_top 22 = .ok (.iconst 0, 1) := by decide +kernel
theorem d_MK_top_23 : decode b_MK_top 23 = .ok (.putfield 63, 3) := by decide +kernel
theorem d_MK_top_26 : decode b_MK_top 26 = .ok (.aload_n 0, 1) := by decide +kernel
theorem d_MK_top_27 : decode b_MK_top 27 = .ok (.getfield 23, 3) := by decide +kernel
theorem d_MK_top_30 : decode b_MK_top 30 = .ok (.getfield 106, 3) := by decide +kernel
theorem d_MK_top_33 : decode b_MK_top 33 = .ok (.istore_n 2, 1) := by decide +kernel
theorem d_MK_top_34 : decode b_MK_top 34 = .ok (.aload_n 0, 1) := by decide +kernel
theorem d_MK_top_35 : decode b_MK_top 35 = .ok (.getfield 23, 3) := by decide +kernel
theorem d_MK_top_38 : decode b_MK_top 38 = .ok (.iload_n 1, 1) := by decide +kernel
theorem d_MK_top_39 : decode b_MK_top 39 = .ok (.putfield 106, 3) := by decide +kernel
theorem d_MK_top_42 : decode b_MK_top 42 = .ok (.iload_n 2, 1) := by decide +kernel
theorem d_MK_top_43 : decode b_MK_top 43 = .ok (.ireturn, 1) := by decide +kernel
theorem d_MK_run_0 : decode b_MK_run 0 = .ok (.iload_n 1, 1) := by decide +kernel
theorem d_MK_run_1 : decode b_MK_run 1 = .ok (.ifCond .lt 9, 3) := by decide +kernel
theorem d_MK_run_4 : decode b_MK_run 4 = .ok (.iload_n 1, 1) := by decide +kernel
theorem d_MK_run_5 : decode b_MK_run 5 = .ok (.ldc 109, 2) := by decide +kernel
theorem d_MK_run_7 : decode b_MK_run 7 = .ok (.if_icmp .le 13, 3) := by decide +kernel
theorem d_MK_run_10 : decode b_MK_run 10 = .ok (.new 87, 3) := by decide +kernel
theorem d_MK_run_13 : decode b_MK_run 13 = .ok (.dup, 1) := by decide +kernel
theorem d_MK_run_14 : decode b_MK_run 14 = .ok (.ldc 110, 2) := by decide +kernel
theorem d_MK_run_16 : decode b_MK_run 16 = .ok (.invokespecial 91, 3) := by decide +kernel
theorem d_MK_run_19 : decode b_MK_run 19 = .ok (.athrow, 1) := by decide +kernel
theorem d_MK_run_20 : decode b_MK_run 20 = .ok (.aload_n 0, 1) := by decide +kernel
theorem d_MK_run_21 : decode b_MK_run 21 = .ok (.getfield 32, 3) := by decide +kernel
theorem d_MK_run_24 : decode b_MK_run 24 = .ok (.getfield 52, 3) := by decide +kernel
theorem d_MK_run_27 : decode b_MK_run 27 = .ok (.ifCond .ne 13, 3) := by decide +kernel
theorem d_MK_run_30 : decode b_MK_run 30 = .ok (.new 56, 3) := by decide +kernel
theorem d_MK_run_33 : decode b_MK_run 33 = .ok (.dup, 1) := by decide +kernel
theorem d_MK_run_34 : decode b_MK_run 34 = .ok (.ldc 112, 2) := by decide +kernel
theorem d_MK_run_36 : decode b_MK_run 36 = .ok (.invokespecial 60, 3) := by decide +kernel
theorem d_MK_run_39 : decode b_MK_run 39 = .ok (.athrow, 1) := by decide +kernel
theorem d_MK_run_40 : decode b_MK_run 40 = .ok (.aload_n 0, 1) := by decide +kernel
theorem d_MK_run_41 : decode b_MK_run 41 = .ok (.getfield 41, 3) := by decide +kernel
theorem d_MK_run_44 : decode b_MK_run 44 = .ok (.iload_n 1, 1) := by decide +kernel
theorem d_MK_run_45 : decode b_MK_run 45 = .ok (.invokevirtual 114, 3) := by decide +kernel
theorem d_MK_run_48 : decode b_MK_run 48 = .ok (.istore_n 2, 1) := by decide +kernel
theorem d_MK_run_49 : decode b_MK_run 49 = .ok (.aload_n 0, 1) := by decide +kernel
theorem d_MK_run_50 : decode b_MK_run 50 = .ok (.iload_n 2, 1) := by decide +kernel
theorem d_MK_run_51 : decode b_MK_run 51 = .ok (.iconst 1, 1) := by decide +kernel
theorem d_MK_run_52 : decode b_MK_run 52 = .ok (.if_icmp .ne 7, 3) := by decide +kernel
theorem d_MK_run_55 : decode b_MK_run 55 = .ok (.iconst 1, 1) := by decide +kernel
theorem d_MK_run_56 : decode b_MK_run 56 = .ok (.goto 4, 3) := by decide +kernel
theorem d_MK_run_59 : decode b_MK_run 59 = .ok (.iconst 0, 1) := by decide +kernel
theorem d_MK_run_60 : decode b_MK_run 60 = .ok (.putfield 63, 3) := by decide +kernel
theorem d_MK_run_63 : decode b_MK_run 63 = .ok (.iload_n 2, 1) := by decide +kernel
theorem d_MK_run_64 : decode b_MK_run 64 = .ok (.ireturn, 1) := by decide +kernel
theorem d_Search_look_0 : decode b_Search_look 0 = .ok (.aload_n 0, 1) := by decide +kernel
theorem d_Search_look_1 : decode b_Search_look 1 = .ok (.iconst 0, 1) := by decide +kernel
theorem d_Search_look_2 : decode b_Search_look 2 = .ok (.putfield 19, 3) := by decide +kernel
theorem d_Search_look_5 : decode b_Search_look 5 = .ok (.aload_n 0, 1) := by decide +kernel
theorem d_Search_look_6 : decode b_Search_look 6 = .ok (.iconst 0, 1) := by decide +kernel
theorem d_Search_look_7 : decode b_Search_look 7 = .ok (.putfield 23, 3) := by decide +kernel
theorem d_Search_look_10 : decode b_Search_look 10 = .ok (.aload_n 0, 1) := by decide +kernel
theorem d_Search_look_11 : decode b_Search_look 11 = .ok (.iconst 0, 1) := by decide +kernel
theorem d_Search_look_12 : decode b_Search_look 12 = .ok (.putfield 26, 3) := by decide +kernel
theorem d_Search_look_15 : decode b_Search_look 15 = .ok (.aload_n 0, 1) := by decide +kernel
theorem d_Search_look_16 : decode b_Search_look 16 = .ok (.getfield 15, 3) := by decide +kernel
theorem d_Search_look_19 : decode b_Search_look 19 = .ok (.getfield 29, 3) := by decide +kernel
theorem d_Search_look_22 : decode b_Search_look 22 = .ok (.aload_n 0, 1) := by decide +kernel
theorem d_Search_look_23 : decode b_Search_look 23 = .ok (.getfield 23, 3) := by decide +kernel
theorem d_Search_look_26 : decode b_Search_look 26 = .ok (.aaload, 1) := by decide +kernel
theorem d_Search_look_27 : decode b_Search_look 27 = .ok (.aload_n 0, 1) := by decide +kernel
theorem d_Search_look_28 : decode b_Search_look 28 = .ok (.getfield 26, 3) := by decide +kernel
theorem d_Search_look_31 : decode b_Search_look 31 = .ok (.iconst (-1), 1) := by decide +kernel
theorem d_Search_look_32 : decode b_Search_look 32 = .ok (.iastore, 1) := by decide +kernel
theorem d_Search_look_33 : decode b_Search_look 33 = .ok (.aload_n 0, 1) := by decide +kernel
theorem d_Search_look_34 : decode b_Search_look 34 = .ok (.getfield 19, 3) := by decide +kernel
theorem d_Search_look_37 : decode b_Search_look 37 = .ok (.iload_n 1, 1) := by decide +kernel
theorem d_Search_look_38 : decode b_Search_look 38 = .ok (.if_icmp .ge 59, 3) := by decide +kernel
theorem d_Search_look_41 : decode b_Search_look 41 = .ok (.aload_n 0, 1) := by decide +kernel
theorem d_Search_look_42 : decode b_Search_look 42 = .ok (.dup, 1) := by decide +kernel
theorem d_Search_look_43 : decode b_Search_look 43 = .ok (.getfield 19, 3) := by decide +kernel
theorem d_Search_look_46 : decode b_Search_look 46 = .ok (.iconst 1, 1) := by decide +kernel
theorem d_Search_look_47 : decode b_Search_look 47 = .ok (.iadd, 1) := by decide +kernel
theorem d_Search_look_48 : decode b_Search_look 48 = .ok (.putfield 19, 3) := by decide +kernel
theorem d_Search_look_51 : decode b_Search_look 51 = .ok (.aload_n 0, 1) := by decide +kernel
theorem d_Search_look_52 : decode b_Search_look 52 = .ok (.getfield 15, 3) := by decide +kernel
theorem d_Search_look_55 : decode b_Search_look 55 = .ok (.getfield 29, 3) := by decide +kernel
theorem d_Search_look_58 : decode b_Search_look 58 = .ok (.aload_n 0, 1) := by decide +kernel
theorem d_Search_look_59 : decode b_Search_look 59 = .ok (.getfield 23, 3) := by decide +kernel
theorem d_Search_look_62 : decode b_Search_look 62 = .ok (.aaload, 1) := by decide +kernel
theorem d_Search_look_63 : decode b_Search_look 63 = .ok (.aload_n 0, 1) := by decide +kernel
theorem d_Search_look_64 : decode b_Search_look 64 = .ok (.getfield 26, 3) := by decide +kernel
theorem d_Search_look_67 : decode b_Search_look 67 = .ok (.dup2, 1) := by decide +kernel
theorem d_Search_look_68 : decode b_Search_look 68 = .ok (.iaload, 1) := by decide +kernel
theorem d_Search_look_69 : decode b_Search_look 69 = .ok (.iconst 1, 1) := by decide +kernel
theorem d_Search_look_70 : decode b_Search_look 70 = .ok (.iadd, 1) := by decide +kernel
theorem d_Search_look_71 : decode b_Search_look 71 = .ok (.iastore, 1) := by decide +kernel
theorem d_Search_look_72 : decode b_Search_look 72 = .ok (.aload_n 0, 1) := by decide +kernel
theorem d_Search_look_73 : decode b_Search_look 73 = .ok (.invokevirtual 35, 3) := by decide +kernel
theorem d_Search_look_76 : decode b_Search_look 76 = .ok (.ifCond .ne 12, 3) := by decide +kernel
theorem d_Search_look_79 : decode b_Search_look 79 = .ok (.aload_n 0, 1) := by decide +kernel
theorem d_Search_look_80 : decode b_Search_look 80 = .ok (.invokevirtual 39, 3) := by decide +kernel
theorem d_Search_look_83 : decode b_Search_look 83 = .ok (.ifCond .ne (-50), 3) := by decide +kernel
theorem d_Search_look_86 : decode b_Search_look 86 = .ok (.iconst 0, 1) := by decide +kernel
theorem d_Search_look_87 : decode b_Search_look 87 = .ok (.ireturn, 1) := by decide +kernel
theorem d_Search_look_88 : decode b_Search_look 88 = .ok (.aload_n 0, 1) := by decide +kernel
theorem d_Search_look_89 : decode b_Search_look 89 = .ok (.invokevirtual 42, 3) := by decide +kernel
theorem d_Search_look_92 : decode b_Search_look 92 = .ok (.ifCond .ne (-59), 3) := by decide +kernel
theorem d_Search_look_95 : decode b_Search_look 95 = .ok (.iconst 1, 1) := by decide +kernel
theorem d_Search_look_96 : decode b_Search_look 96 = .ok (.ireturn, 1) := by decide +kernel
theorem d_Search_look_97 : decode b_Search_look 97 = .ok (.iconst 2, 1) := by decide +kernel
theorem d_Search_look_98 : decode b_Search_look 98 = .ok (.ireturn, 1) := by decide +kernel
theorem d_Search_stands_0 : decode b_Search_stands 0 = .ok (.aload_n 0, 1) := by decide +kernel
theorem d_Search_stands_1 : decode b_Search_stands 1 = .ok (.getfield 15, 3) := by decide +kernel
theorem d_Search_stands_4 : decode b_Search_stands 4 = .ok (.getfield 29, 3) := by decide +kernel
theorem d_Search_stands_7 : decode b_Search_stands 7 = .ok (.aload_n 0, 1) := by decide +kernel
theorem d_Search_stands_8 : decode b_Search_stands 8 = .ok (.getfield 23, 3) := by decide +kernel
theorem d_Search_stands_11 : decode b_Search_stands 11 = .ok (.aaload, 1) := by decide +kernel
theorem d_Search_stands_12 : decode b_Search_stands 12 = .ok (.astore_n 1, 1) := by decide +kernel
theorem d_Search_stands_13 : decode b_Search_stands 13 = .ok (.aload_n 0, 1) := by decide +kernel
theorem d_Search_stands_14 : decode b_Search_stands 14 = .ok (.getfield 26, 3) := by decide +kernel
theorem d_Search_stands_17 : decode b_Search_stands 17 = .ok (.ifCond .le 29, 3) := by decide +kernel
theorem d_Search_stands_20 : decode b_Search_stands 20 = .ok (.aload_n 0, 1) := by decide +kernel
theorem d_Search_stands_21 : decode b_Search_stands 21 = .ok (.getfield 9, 3) := by decide +kernel
theorem d_Search_stands_24 : decode b_Search_stands 24 = .ok (.aload_n 1, 1) := by decide +kernel
theorem d_Search_stands_25 : decode b_Search_stands 25 = .ok (.aload_n 0, 1) := by decide +kernel
theorem d_Search_stands_26 : decode b_Search_stands 26 = .ok (.getfield 26, 3) := by decide +kernel
theorem d_Search_stands_29 : decode b_Search_stands 29 = .ok (.iconst 1, 1) := by decide +kernel
theorem d_Search_stands_30 : decode b_Search_stands 30 = .ok (.isub, 1) := by decide +kernel
theorem d_Search_stands_31 : decode b_Search_stands 31 = .ok (.iaload, 1) := by decide +kernel
theorem d_Search_stands_32 : decode b_Search_stands 32 = .ok (.aload_n 1, 1) := by decide +kernel
theorem d_Search_stands_33 : decode b_Search_stands 33 = .ok (.aload_n 0, 1) := by decide +kernel
theorem d_Search_stands_34 : decode b_Search_stands 34 = .ok (.getfield 26, 3) := by decide +kernel
theorem d_Search_stands_37 : decode b_Search_stands 37 = .ok (.iaload, 1) := by decide +kernel
theorem d_Search_stands_38 : decode b_Search_stands 38 = .ok (.invokevirtual 45, 3) := by decide +kernel
theorem d_Search_stands_41 : decode b_Search_stands 41 = .ok (.ifCond .ne 5, 3) := by decide +kernel
theorem d_Search_stands_44 : decode b_Search_stands 44 = .ok (.iconst 0, 1) := by decide +kernel
theorem d_Search_stands_45 : decode b_Search_stands 45 = .ok (.ireturn, 1) := by decide +kernel
theorem d_Search_stands_46 : decode b_Search_stands 46 = .ok (.aload_n 0, 1) := by decide +kernel
theorem d_Search_stands_47 : decode b_Search_stands 47 = .ok (.getfield 26, 3) := by decide +kernel
theorem d_Search_stands_50 : decode b_Search_stands 50 = .ok (.aload_n 0, 1) := by decide +kernel
theorem d_Search_stands_51 : decode b_Search_stands 51 = .ok (.getfield 9, 3) := by decide +kernel
theorem d_Search_stands_54 : decode b_Search_stands 54 = .ok (.getfield 51, 3) := by decide +kernel
theorem d_Search_stands_57 : decode b_Search_stands 57 = .ok (.iconst 1, 1) := by decide +kernel
theorem d_Search_stands_58 : decode b_Search_stands 58 = .ok (.isub, 1) := by decide +kernel
theorem d_Search_stands_59 : decode b_Search_stands 59 = .ok (.if_icmp .lt 17, 3) := by decide +kernel
theorem d_Search_stands_62 : decode b_Search_stands 62 = .ok (.aload_n 0, 1) := by decide +kernel
theorem d_Search_stands_63 : decode b_Search_stands 63 = .ok (.getfield 15, 3) := by decide +kernel
theorem d_Search_stands_66 : decode b_Search_stands 66 = .ok (.aload_n 0, 1) := by decide +kernel
theorem d_Search_stands_67 : decode b_Search_stands 67 = .ok (.getfield 23, 3) := by decide +kernel
theorem d_Search_stands_70 : decode b_Search_stands 70 = .ok (.invokevirtual 54, 3) := by decide +kernel
theorem d_Search_stands_73 : decode b_Search_stands 73 = .ok (.ifCond .eq 7, 3) := by decide +kernel
theorem d_Search_stands_76 : decode b_Search_stands 76 = .ok (.iconst 1, 1) := by decide +kernel
theorem d_Search_stands_77 : decode b_Search_stands 77 = .ok (.goto 4, 3) := by decide +kernel
theorem d_Search_stands_80 : decode b_Search_stands 80 = .ok (.iconst 0, 1) := by decide +kernel
theorem d_Search_stands_81 : decode b_Search_stands 81 = .ok (.ireturn, 1) := by decide +kernel
theorem d_Law_mayFollow_0 : decode b_Law_mayFollow 0 = .ok (.iload_n 2, 1) := by decide +kernel
theorem d_Law_mayFollow_1 : decode b_Law_mayFollow 1 = .ok (.iload_n 1, 1) := by decide +kernel
theorem d_Law_mayFollow_2 : decode b_Law_mayFollow 2 = .ok (.isub, 1) := by decide +kernel
theorem d_Law_mayFollow_3 : decode b_Law_mayFollow 3 = .ok (.invokestatic 34, 3) := by decide +kernel
theorem d_Law_mayFollow_6 : decode b_Law_mayFollow 6 = .ok (.aload_n 0, 1) := by decide +kernel
theorem d_Law_mayFollow_7 : decode b_Law_mayFollow 7 = .ok (.getfield 9, 3) := by decide +kernel
theorem d_Law_mayFollow_10 : decode b_Law_mayFollow 10 = .ok (.if_icmp .gt 16, 3) := by decide +kernel
theorem d_Law_mayFollow_13 : decode b_Law_mayFollow 13 = .ok (.aload_n 0, 1) := by decide +kernel
theorem d_Law_mayFollow_14 : decode b_Law_mayFollow 14 = .ok (.iload_n 1, 1) := by decide +kernel
theorem d_Law_mayFollow_15 : decode b_Law_mayFollow 15 = .ok (.iload_n 2, 1) := by decide +kernel
theorem d_Law_mayFollow_16 : decode b_Law_mayFollow 16 = .ok (.invokevirtual 40, 3) := by decide +kernel
theorem d_Law_mayFollow_19 : decode b_Law_mayFollow 19 = .ok (.ifCond .ne 7, 3) := by decide +kernel
theorem d_Law_mayFollow_22 : decode b_Law_mayFollow 22 = .ok (.iconst 1, 1) := by decide +kernel
theorem d_Law_mayFollow_23 : decode b_Law_mayFollow 23 = .ok (.goto 4, 3) := by decide +kernel
theorem d_Law_mayFollow_26 : decode b_Law_mayFollow 26 = .ok (.iconst 0, 1) := by decide +kernel
theorem d_Law_mayFollow_27 : decode b_Law_mayFollow 27 = .ok (.ireturn, 1) := by decide +kernel
theorem d_Board_accepts_0 : decode b_Board_accepts 0 = .ok (.aload_n 0, 1) := by decide +kernel
theorem d_Board_accepts_1 : decode b_Board_accepts 1 = .ok (.iload_n 1, 1) := by decide +kernel
theorem d_Board_accepts_2 : decode b_Board_accepts 2 = .ok (.invokevirtual 56, 3) := by decide +kernel
theorem d_Board_accepts_5 : decode b_Board_accepts 5 = .ok (.lstore_n 2, 1) := by decide +kernel
theorem d_Board_accepts_6 : decode b_Board_accepts 6 = .ok (.aload_n 0, 1) := by decide +kernel
theorem d_Board_accepts_7 : decode b_Board_accepts 7 = .ok (.lload_n 2, 1) := by decide +kernel
theorem d_Board_accepts_8 : decode b_Board_accepts 8 = .ok (.iload_n 1, 1) := by decide +kernel
theorem d_Board_accepts_9 : decode b_Board_accepts 9 = .ok (.invokevirtual 60, 3) := by decide +kernel
theorem d_Board_accepts_12 : decode b_Board_accepts 12 = .ok (.ifCond .eq 5, 3) := by decide +kernel
theorem d_Board_accepts_15 : decode b_Board_accepts 15 = .ok (.iconst 0, 1) := by decide +kernel
theorem d_Board_accepts_16 : decode b_Board_accepts 16 = .ok (.ireturn, 1) := by decide +kernel
theorem d_Board_accepts_17 : decode b_Board_accepts 17 = .ok (.aload_n 0, 1) := by decide +kernel
theorem d_Board_accepts_18 : decode b_Board_accepts 18 = .ok (.getfield 20, 3) := by decide +kernel
theorem d_Board_accepts_21 : decode b_Board_accepts 21 = .ok (.iload_n 1, 1) := by decide +kernel
theorem d_Board_accepts_22 : decode b_Board_accepts 22 = .ok (.lload_n 2, 1) := by decide +kernel
theorem d_Board_accepts_23 : decode b_Board_accepts 23 = .ok (.lastore, 1) := by decide +kernel
theorem d_Board_accepts_24 : decode b_Board_accepts 24 = .ok (.iconst 0, 1) := by decide +kernel
theorem d_Board_accepts_25 : decode b_Board_accepts 25 = .ok (.istore 4, 2) := by decide +kernel
theorem d_Board_accepts_27 : decode b_Board_accepts 27 = .ok (.iload 4, 2) := by decide +kernel
theorem d_Board_accepts_29 : decode b_Board_accepts 29 = .ok (.aload_n 0, 1) := by decide +kernel
theorem d_Board_accepts_30 : decode b_Board_accepts 30 = .ok (.getfield 33, 3) := by decide +kernel
theorem d_Board_accepts_33 : decode b_Board_accepts 33 = .ok (.if_icmp .ge 21, 3) := by decide +kernel
theorem d_Board_accepts_36 : decode b_Board_accepts 36 = .ok (.aload_n 0, 1) := by decide +kernel
theorem d_Board_accepts_37 : decode b_Board_accepts 37 = .ok (.iload 4, 2) := by decide +kernel
theorem d_Board_accepts_39 : decode b_Board_accepts 39 = .ok (.iload_n 1, 1) := by decide +kernel
theorem d_Board_accepts_40 : decode b_Board_accepts 40 = .ok (.invokevirtual 64, 3) := by decide +kernel
theorem d_Board_accepts_43 : decode b_Board_accepts 43 = .ok (.ifCond .ne 5, 3) := by decide +kernel
theorem d_Board_accepts_46 : decode b_Board_accepts 46 = .ok (.iconst 0, 1) := by decide +kernel
theorem d_Board_accepts_47 : decode b_Board_accepts 47 = .ok (.ireturn, 1) := by decide +kernel
theorem d_Board_accepts_48 : decode b_Board_accepts 48 = .ok (.iinc 4 1, 3) := by decide +kernel
theorem d_Board_accepts_51 : decode b_Board_accepts 51 = .ok (.goto (-24), 3) := by decide +kernel
theorem d_Board_accepts_54 : decode b_Board_accepts 54 = .ok (.iconst 1, 1) := by decide +kernel
theorem d_Board_accepts_55 : decode b_Board_accepts 55 = .ok (.ireturn, 1) := by decide +kernel
theorem d_Board_rowFromCuts_0 : decode b_Board_rowFromCuts 0 = .ok (.lconst 0, 1) := by decide +kernel
theorem d_Board_rowFromCuts_1 : decode b_Board_rowFromCuts 1 = .ok (.lstore_n 2, 1) := by decide +kernel
theorem d_Board_rowFromCuts_2 : decode b_Board_rowFromCuts 2 = .ok (.iconst 0, 1) := by decide +kernel
theorem d_Board_rowFromCuts_3 : decode b_Board_rowFromCuts 3 = .ok (.istore 4, 2) := by decide +kernel
theorem d_Board_rowFromCuts_5 : decode b_Board_rowFromCuts 5 = .ok (.iload 4, 2) := by decide +kernel
theorem d_Board_rowFromCuts_7 : decode b_Board_rowFromCuts 7 = .ok (.aload_n 0, 1) := by decide +kernel
theorem d_Board_rowFromCuts_8 : decode b_Board_rowFromCuts 8 = .ok (.getfield 29, 3) := by decide +kernel
theorem d_Board_rowFromCuts_11 : decode b_Board_rowFromCuts 11 = .ok (.getfield 79, 3) := by decide +kernel
theorem d_Board_rowFromCuts_14 : decode b_Board_rowFromCuts 14 = .ok (.if_icmp .ge 26, 3) := by decide +kernel
theorem d_Board_rowFromCuts_17 : decode b_Board_rowFromCuts 17 = .ok (.lload_n 2, 1) := by decide +kernel
theorem d_Board_rowFromCuts_18 : decode b_Board_rowFromCuts 18 = .ok (.iload 4, 2) := by decide +kernel
theorem d_Board_rowFromCuts_20 : decode b_Board_rowFromCuts 20 = .ok (.aload_n 0, 1) := by decide +kernel
theorem d_Board_rowFromCuts_21 : decode b_Board_rowFromCuts 21 = .ok (.getfield 17, 3) := by decide +kernel
theorem d_Board_rowFromCuts_24 : decode b_Board_rowFromCuts 24 = .ok (.iload_n 1, 1) := by decide +kernel
theorem d_Board_rowFromCuts_25 : decode b_Board_rowFromCuts 25 = .ok (.aaload, 1) := by decide +kernel
theorem d_Board_rowFromCuts_26 : decode b_Board_rowFromCuts 26 = .ok (.iload 4, 2) := by decide +kernel
theorem d_Board_rowFromCuts_28 : decode b_Board_rowFromCuts 28 = .ok (.iaload, 1) := by decide +kernel
theorem d_Board_rowFromCuts_29 : decode b_Board_rowFromCuts 29 = .ok (.invokestatic 37, 3) := by decide +kernel
theorem d_Board_rowFromCuts_32 : decode b_Board_rowFromCuts 32 = .ok (.lor, 1) := by decide +kernel
theorem d_Board_rowFromCuts_33 : decode b_Board_rowFromCuts 33 = .ok (.lstore_n 2, 1) := by decide +kernel
theorem d_Board_rowFromCuts_34 : decode b_Board_rowFromCuts 34 = .ok (.iinc 4 1, 3) := by decide +kernel
theorem d_Board_rowFromCuts_37 : decode b_Board_rowFromCuts 37 = .ok (.goto (-32), 3) := by decide +kernel
theorem d_Board_rowFromCuts_40 : decode b_Board_rowFromCuts 40 = .ok (.lload_n 2, 1) := by decide +kernel
theorem d_Board_rowFromCuts_41 : decode b_Board_rowFromCuts 41 = .ok (.lreturn, 1) := by decide +kernel
theorem d_Board_bit_0 : decode b_Board_bit 0 = .ok (.lconst 1, 1) := by decide +kernel
theorem d_Board_bit_1 : decode b_Board_bit 1 = .ok (.iload_n 0, 1) := by decide +kernel
theorem d_Board_bit_2 : decode b_Board_bit 2 = .ok (.bipush 8, 2) := by decide +kernel
theorem d_Board_bit_4 : decode b_Board_bit 4 = .ok (.imul, 1) := by decide +kernel
theorem d_Board_bit_5 : decode b_Board_bit 5 = .ok (.iload_n 1, 1) := by decide +kernel
theorem d_Board_bit_6 : decode b_Board_bit 6 = .ok (.iadd, 1) := by decide +kernel
theorem d_Board_bit_7 : decode b_Board_bit 7 = .ok (.lshl, 1) := by decide +kernel
theorem d_Board_bit_8 : decode b_Board_bit 8 = .ok (.lreturn, 1) := by decide +kernel
theorem d_Board_isTaken_0 : decode b_Board_isTaken 0 = .ok (.iconst 0, 1) := by decide +kernel
theorem d_Board_isTaken_1 : decode b_Board_isTaken 1 = .ok (.istore 4, 2) := by decide +kernel
theorem d_Board_isTaken_3 : decode b_Board_isTaken 3 = .ok (.iload 4, 2) := by decide +kernel
theorem d_Board_isTaken_5 : decode b_Board_isTaken 5 = .ok (.iload_n 3, 1) := by decide +kernel
theorem d_Board_isTaken_6 : decode b_Board_isTaken 6 = .ok (.if_icmp .ge 23, 3) := by decide +kernel
theorem d_Board_isTaken_9 : decode b_Board_isTaken 9 = .ok (.aload_n 0, 1) := by decide +kernel
theorem d_Board_isTaken_10 : decode b_Board_isTaken 10 = .ok (.getfield 20, 3) := by decide +kernel
theorem d_Board_isTaken_13 : decode b_Board_isTaken 13 = .ok (.iload 4, 2) := by decide +kernel
theorem d_Board_isTaken_15 : decode b_Board_isTaken 15 = .ok (.laload, 1) := by decide +kernel
theorem d_Board_isTaken_16 : decode b_Board_isTaken 16 = .ok (.lload_n 1, 1) := by decide +kernel
theorem d_Board_isTaken_17 : decode b_Board_isTaken 17 = .ok (.lcmp, 1) := by decide +kernel
theorem d_Board_isTaken_18 : decode b_Board_isTaken 18 = .ok (.ifCond .ne 5, 3) := by decide +kernel
theorem d_Board_isTaken_21 : decode b_Board_isTaken 21 = .ok (.iconst 1, 1) := by decide +kernel
theorem d_Board_isTaken_22 : decode b_Board_isTaken 22 = .ok (.ireturn, 1) := by decide +kernel
theorem d_Board_isTaken_23 : decode b_Board_isTaken 23 = .ok (.iinc 4 1, 3) := by decide +kernel
theorem d_Board_isTaken_26 : decode b_Board_isTaken 26 = .ok (.goto (-23), 3) := by decide +kernel
theorem d_Board_isTaken_29 : decode b_Board_isTaken 29 = .ok (.iconst 0, 1) := by decide +kernel
theorem d_Board_isTaken_30 : decode b_Board_isTaken 30 = .ok (.ireturn, 1) := by decide +kernel
theorem d_Board_doorAccepts_0 : decode b_Board_doorAccepts 0 = .ok (.aload_n 0, 1) := by decide +kernel
theorem d_Board_doorAccepts_1 : decode b_Board_doorAccepts 1 = .ok (.getfield 20, 3) := by decide +kernel
theorem d_Board_doorAccepts_4 : decode b_Board_doorAccepts 4 = .ok (.iload_n 2, 1) := by decide +kernel
theorem d_Board_doorAccepts_5 : decode b_Board_doorAccepts 5 = .ok (.laload, 1) := by decide +kernel
theorem d_Board_doorAccepts_6 : decode b_Board_doorAccepts 6 = .ok (.lstore_n 3, 1) := by decide +kernel
theorem d_Board_doorAccepts_7 : decode b_Board_doorAccepts 7 = .ok (.aload_n 0, 1) := by decide +kernel
theorem d_Board_doorAccepts_8 : decode b_Board_doorAccepts 8 = .ok (.getfield 26, 3) := by decide +kernel
theorem d_Board_doorAccepts_11 : decode b_Board_doorAccepts 11 = .ok (.iload_n 2, 1) := by decide +kernel
theorem d_Board_doorAccepts_12 : decode b_Board_doorAccepts 12 = .ok (.aaload, 1) := by decide +kernel
theorem d_Board_doorAccepts_13 : decode b_Board_doorAccepts 13 = .ok (.iload_n 1, 1) := by decide +kernel
theorem d_Board_doorAccepts_14 : decode b_Board_doorAccepts 14 = .ok (.laload, 1) := by decide +kernel
theorem d_Board_doorAccepts_15 : decode b_Board_doorAccepts 15 = .ok (.lstore 5, 2) := by decide +kernel
theorem d_Board_doorAccepts_17 : decode b_Board_doorAccepts 17 = .ok (.aload_n 0, 1) := by decide +kernel
theorem d_Board_doorAccepts_18 : decode b_Board_doorAccepts 18 = .ok (.iload_n 2, 1) := by decide +kernel
theorem d_Board_doorAccepts_19 : decode b_Board_doorAccepts 19 = .ok (.iload_n 1, 1) := by decide +kernel
theorem d_Board_doorAccepts_20 : decode b_Board_doorAccepts 20 = .ok (.invokevirtual 68, 3) := by decide +kernel
theorem d_Board_doorAccepts_23 : decode b_Board_doorAccepts 23 = .ok (.ifCond .eq 31, 3) := by decide +kernel
theorem d_Board_doorAccepts_26 : decode b_Board_doorAccepts 26 = .ok (.lload 5, 2) := by decide +kernel
theorem d_Board_doorAccepts_28 : decode b_Board_doorAccepts 28 = .ok (.lload_n 3, 1) := by decide +kernel
theorem d_Board_doorAccepts_29 : decode b_Board_doorAccepts 29 = .ok (.lor, 1) := by decide +kernel
theorem d_Board_doorAccepts_30 : decode b_Board_doorAccepts 30 = .ok (.lstore 5, 2) := by decide +kernel
theorem d_Board_doorAccepts_32 : decode b_Board_doorAccepts 32 = .ok (.aload_n 0, 1) := by decide +kernel
theorem d_Board_doorAccepts_33 : decode b_Board_doorAccepts 33 = .ok (.lload 5, 2) := by decide +kernel
theorem d_Board_doorAccepts_35 : decode b_Board_doorAccepts 35 = .ok (.invokevirtual 71, 3) := by decide +kernel
theorem d_Board_doorAccepts_38 : decode b_Board_doorAccepts 38 = .ok (.ifCond .ne 14, 3) := by decide +kernel
theorem d_Board_doorAccepts_41 : decode b_Board_doorAccepts 41 = .ok (.aload_n 0, 1) := by decide +kernel
theorem d_Board_doorAccepts_42 : decode b_Board_doorAccepts 42 = .ok (.lload 5, 2) := by decide +kernel
theorem d_Board_doorAccepts_44 : decode b_Board_doorAccepts 44 = .ok (.iload_n 1, 1) := by decide +kernel
theorem d_Board_doorAccepts_45 : decode b_Board_doorAccepts 45 = .ok (.iload_n 2, 1) := by decide +kernel
theorem d_Board_doorAccepts_46 : decode b_Board_doorAccepts 46 = .ok (.invokevirtual 75, 3) := by decide +kernel
theorem d_Board_doorAccepts_49 : decode b_Board_doorAccepts 49 = .ok (.ifCond .eq 16, 3) := by decide +kernel
theorem d_Board_doorAccepts_52 : decode b_Board_doorAccepts 52 = .ok (.iconst 0, 1) := by decide +kernel
theorem d_Board_doorAccepts_53 : decode b_Board_doorAccepts 53 = .ok (.ireturn, 1) := by decide +kernel
theorem d_Board_doorAccepts_54 : decode b_Board_doorAccepts 54 = .ok (.lload_n 3, 1) := by decide +kernel
theorem d_Board_doorAccepts_55 : decode b_Board_doorAccepts 55 = .ok (.lload 5, 2) := by decide +kernel
theorem d_Board_doorAccepts_57 : decode b_Board_doorAccepts 57 = .ok (.invokestatic 48, 3) := by decide +kernel
theorem d_Board_doorAccepts_60 : decode b_Board_doorAccepts 60 = .ok (.ifCond .eq 5, 3) := by decide +kernel
theorem d_Board_doorAccepts_63 : decode b_Board_doorAccepts 63 = .ok (.iconst 0, 1) := by decide +kernel
theorem d_Board_doorAccepts_64 : decode b_Board_doorAccepts 64 = .ok (.ireturn, 1) := by decide +kernel
theorem d_Board_doorAccepts_65 : decode b_Board_doorAccepts 65 = .ok (.aload_n 0, 1) := by decide +kernel
theorem d_Board_doorAccepts_66 : decode b_Board_doorAccepts 66 = .ok (.getfield 26, 3) := by decide +kernel
theorem d_Board_doorAccepts_69 : decode b_Board_doorAccepts 69 = .ok (.iload_n 2, 1) := by decide +kernel
theorem d_Board_doorAccepts_70 : decode b_Board_doorAccepts 70 = .ok (.iconst 1, 1) := by decide +kernel
theorem d_Board_doorAccepts_71 : decode b_Board_doorAccepts 71 = .ok (.iadd, 1) := by decide +kernel
theorem d_Board_doorAccepts_72 : decode b_Board_doorAccepts 72 = .ok (.aaload, 1) := by decide +kernel
theorem d_Board_doorAccepts_73 : decode b_Board_doorAccepts 73 = .ok (.iload_n 1, 1) := by decide +kernel
theorem d_Board_doorAccepts_74 : decode b_Board_doorAccepts 74 = .ok (.lload 5, 2) := by decide +kernel
theorem d_Board_doorAccepts_76 : decode b_Board_doorAccepts 76 = .ok (.lastore, 1) := by decide +kernel
theorem d_Board_doorAccepts_77 : decode b_Board_doorAccepts 77 = .ok (.iconst 1, 1) := by decide +kernel
theorem d_Board_doorAccepts_78 : decode b_Board_doorAccepts 78 = .ok (.ireturn, 1) := by decide +kernel
theorem d_Board_isAboveTop_0 : decode b_Board_isAboveTop 0 = .ok (.iconst 0, 1) := by decide +kernel
theorem d_Board_isAboveTop_1 : decode b_Board_isAboveTop 1 = .ok (.istore_n 3, 1) := by decide +kernel
theorem d_Board_isAboveTop_2 : decode b_Board_isAboveTop 2 = .ok (.iload_n 3, 1) := by decide +kernel
theorem d_Board_isAboveTop_3 : decode b_Board_isAboveTop 3 = .ok (.aload_n 0, 1) := by decide +kernel
theorem d_Board_isAboveTop_4 : decode b_Board_isAboveTop 4 = .ok (.getfield 29, 3) := by decide +kernel
theorem d_Board_isAboveTop_7 : decode b_Board_isAboveTop 7 = .ok (.getfield 79, 3) := by decide +kernel
theorem d_Board_isAboveTop_10 : decode b_Board_isAboveTop 10 = .ok (.if_icmp .ge 34, 3) := by decide +kernel
theorem d_Board_isAboveTop_13 : decode b_Board_isAboveTop 13 = .ok (.lload_n 1, 1) := by decide +kernel
theorem d_Board_isAboveTop_14 : decode b_Board_isAboveTop 14 = .ok (.iload_n 3, 1) := by decide +kernel
theorem d_Board_isAboveTop_15 : decode b_Board_isAboveTop 15 = .ok (.bipush 8, 2) := by decide +kernel
theorem d_Board_isAboveTop_17 : decode b_Board_isAboveTop 17 = .ok (.imul, 1) := by decide +kernel
theorem d_Board_isAboveTop_18 : decode b_Board_isAboveTop 18 = .ok (.lushr, 1) := by decide +kernel
theorem d_Board_isAboveTop_19 : decode b_Board_isAboveTop 19 = .ok (.ldc2_w 84, 3) := by decide +kernel
theorem d_Board_isAboveTop_22 : decode b_Board_isAboveTop 22 = .ok (.land, 1) := by decide +kernel
theorem d_Board_isAboveTop_23 : decode b_Board_isAboveTop 23 = .ok (.invokestatic 86, 3) := by decide +kernel
theorem d_Board_isAboveTop_26 : decode b_Board_isAboveTop 26 = .ok (.aload_n 0, 1) := by decide +kernel
theorem d_Board_isAboveTop_27 : decode b_Board_isAboveTop 27 = .ok (.getfield 29, 3) := by decide +kernel
theorem d_Board_isAboveTop_30 : decode b_Board_isAboveTop 30 = .ok (.getfield 91, 3) := by decide +kernel
theorem d_Board_isAboveTop_33 : decode b_Board_isAboveTop 33 = .ok (.if_icmp .le 5, 3) := by decide +kernel
theorem d_Board_isAboveTop_36 : decode b_Board_isAboveTop 36 = .ok (.iconst 1, 1) := by decide +kernel
theorem d_Board_isAboveTop_37 : decode b_Board_isAboveTop 37 = .ok (.ireturn, 1) := by decide +kernel
theorem d_Board_isAboveTop_38 : decode b_Board_isAboveTop 38 = .ok (.iinc 3 1, 3) := by decide +kernel
theorem d_Board_isAboveTop_41 : decode b_Board_isAboveTop 41 = .ok (.goto (-39), 3) := by decide +kernel
theorem d_Board_isAboveTop_44 : decode b_Board_isAboveTop 44 = .ok (.iconst 0, 1) := by decide +kernel
theorem d_Board_isAboveTop_45 : decode b_Board_isAboveTop 45 = .ok (.ireturn, 1) := by decide +kernel
theorem d_JL_bitCount_0 : decode b_JL_bitCount 0 = .ok (.lload_n 0, 1) := by decide +kernel
theorem d_JL_bitCount_1 : decode b_JL_bitCount 1 = .ok (.lload_n 0, 1) := by decide +kernel
theorem d_JL_bitCount_2 : decode b_JL_bitCount 2 = .ok (.iconst 1, 1) := by decide +kernel
theorem d_JL_bitCount_3 : decode b_JL_bitCount 3 = .ok (.lushr, 1) := by decide +kernel
theorem d_JL_bitCount_4 : decode b_JL_bitCount 4 = .ok (.ldc2_w 314, 3) := by decide +kernel
theorem d_JL_bitCount_7 : decode b_JL_bitCount 7 = .ok (.land, 1) := by decide +kernel
theorem d_JL_bitCount_8 : decode b_JL_bitCount 8 = .ok (.lsub, 1) := by decide +kernel
theorem d_JL_bitCount_9 : decode b_JL_bitCount 9 = .ok (.lstore_n 0, 1) := by decide +kernel
theorem d_JL_bitCount_10 : decode b_JL_bitCount 10 = .ok (.lload_n 0, 1) := by decide +kernel
theorem d_JL_bitCount_11 : decode b_JL_bitCount 11 = .ok (.ldc2_w 316, 3) := by decide +kernel
theorem d_JL_bitCount_14 : decode b_JL_bitCount 14 = .ok (.land, 1) := by decide +kernel
theorem d_JL_bitCount_15 : decode b_JL_bitCount 15 = .ok (.lload_n 0, 1) := by decide +kernel
theorem d_JL_bitCount_16 : decode b_JL_bitCount 16 = .ok (.iconst 2, 1) := by decide +kernel
theorem d_JL_bitCount_17 : decode b_JL_bitCount 17 = .ok (.lushr, 1) := by decide +kernel
theorem d_JL_bitCount_18 : decode b_JL_bitCount 18 = .ok (.ldc2_w 316, 3) := by decide +kernel
theorem d_JL_bitCount_21 : decode b_JL_bitCount 21 = .ok (.land, 1) := by decide +kernel
theorem d_JL_bitCount_22 : decode b_JL_bitCount 22 = .ok (.ladd, 1) := by decide +kernel
theorem d_JL_bitCount_23 : decode b_JL_bitCount 23 = .ok (.lstore_n 0, 1) := by decide +kernel
theorem d_JL_bitCount_24 : decode b_JL_bitCount 24 = .ok (.lload_n 0, 1) := by decide +kernel
theorem d_JL_bitCount_25 : decode b_JL_bitCount 25 = .ok (.lload_n 0, 1) := by decide +kernel
theorem d_JL_bitCount_26 : decode b_JL_bitCount 26 = .ok (.iconst 4, 1) := by decide +kernel
theorem d_JL_bitCount_27 : decode b_JL_bitCount 27 = .ok (.lushr, 1) := by decide +kernel
theorem d_JL_bitCount_28 : decode b_JL_bitCount 28 = .ok (.ladd, 1) := by decide +kernel
theorem d_JL_bitCount_29 : decode b_JL_bitCount 29 = .ok (.ldc2_w 318, 3) := by decide +kernel
theorem d_JL_bitCount_32 : decode b_JL_bitCount 32 = .ok (.land, 1) := by decide +kernel
theorem d_JL_bitCount_33 : decode b_JL_bitCount 33 = .ok (.lstore_n 0, 1) := by decide +kernel
theorem d_JL_bitCount_34 : decode b_JL_bitCount 34 = .ok (.lload_n 0, 1) := by decide +kernel
theorem d_JL_bitCount_35 : decode b_JL_bitCount 35 = .ok (.lload_n 0, 1) := by decide +kernel
theorem d_JL_bitCount_36 : decode b_JL_bitCount 36 = .ok (.bipush 8, 2) := by decide +kernel
theorem d_JL_bitCount_38 : decode b_JL_bitCount 38 = .ok (.lushr, 1) := by decide +kernel
theorem d_JL_bitCount_39 : decode b_JL_bitCount 39 = .ok (.ladd, 1) := by decide +kernel
theorem d_JL_bitCount_40 : decode b_JL_bitCount 40 = .ok (.lstore_n 0, 1) := by decide +kernel
theorem d_JL_bitCount_41 : decode b_JL_bitCount 41 = .ok (.lload_n 0, 1) := by decide +kernel
theorem d_JL_bitCount_42 : decode b_JL_bitCount 42 = .ok (.lload_n 0, 1) := by decide +kernel
theorem d_JL_bitCount_43 : decode b_JL_bitCount 43 = .ok (.bipush 16, 2) := by decide +kernel
theorem d_JL_bitCount_45 : decode b_JL_bitCount 45 = .ok (.lushr, 1) := by decide +kernel
theorem d_JL_bitCount_46 : decode b_JL_bitCount 46 = .ok (.ladd, 1) := by decide +kernel
theorem d_JL_bitCount_47 : decode b_JL_bitCount 47 = .ok (.lstore_n 0, 1) := by decide +kernel
theorem d_JL_bitCount_48 : decode b_JL_bitCount 48 = .ok (.lload_n 0, 1) := by decide +kernel
theorem d_JL_bitCount_49 : decode b_JL_bitCount 49 = .ok (.lload_n 0, 1) := by decide +kernel
theorem d_JL_bitCount_50 : decode b_JL_bitCount 50 = .ok (.bipush 32, 2) := by decide +kernel
theorem d_JL_bitCount_52 : decode b_JL_bitCount 52 = .ok (.lushr, 1) := by decide +kernel
theorem d_JL_bitCount_53 : decode b_JL_bitCount 53 = .ok (.ladd, 1) := by decide +kernel
theorem d_JL_bitCount_54 : decode b_JL_bitCount 54 = .ok (.lstore_n 0, 1) := by decide +kernel
theorem d_JL_bitCount_55 : decode b_JL_bitCount 55 = .ok (.lload_n 0, 1) := by decide +kernel
theorem d_JL_bitCount_56 : decode b_JL_bitCount 56 = .ok (.l2i, 1) := by decide +kernel
theorem d_JL_bitCount_57 : decode b_JL_bitCount 57 = .ok (.bipush 127, 2) := by decide +kernel
theorem d_JL_bitCount_59 : decode b_JL_bitCount 59 = .ok (.iand, 1) := by decide +kernel
theorem d_JL_bitCount_60 : decode b_JL_bitCount 60 = .ok (.ireturn, 1) := by decide +kernel
theorem d_Board_strangerFits_0 : decode b_Board_strangerFits 0 = .ok (.iconst 0, 1) := by decide +kernel
theorem d_Board_strangerFits_1 : decode b_Board_strangerFits 1 = .ok (.istore 5, 2) := by decide +kernel
theorem d_Board_strangerFits_3 : decode b_Board_strangerFits 3 = .ok (.iload 5, 2) := by decide +kernel
theorem d_Board_strangerFits_5 : decode b_Board_strangerFits 5 = .ok (.iload 4, 2) := by decide +kernel
theorem d_Board_strangerFits_7 : decode b_Board_strangerFits 7 = .ok (.if_icmp .ge 35, 3) := by decide +kernel
theorem d_Board_strangerFits_10 : decode b_Board_strangerFits 10 = .ok (.aload_n 0, 1) := by decide +kernel
theorem d_Board_strangerFits_11 : decode b_Board_strangerFits 11 = .ok (.iload 5, 2) := by decide +kernel
theorem d_Board_strangerFits_13 : decode b_Board_strangerFits 13 = .ok (.iload_n 3, 1) := by decide +kernel
theorem d_Board_strangerFits_14 : decode b_Board_strangerFits 14 = .ok (.invokevirtual 68, 3) := by decide +kernel
theorem d_Board_strangerFits_17 : decode b_Board_strangerFits 17 = .ok (.ifCond .ne 19, 3) := by decide +kernel
theorem d_Board_strangerFits_20 : decode b_Board_strangerFits 20 = .ok (.aload_n 0, 1) := by decide +kernel
theorem d_Board_strangerFits_21 : decode b_Board_strangerFits 21 = .ok (.getfield 20, 3) := by decide +kernel
theorem d_Board_strangerFits_24 : decode b_Board_strangerFits 24 = .ok (.iload 5, 2) := by decide +kernel
theorem d_Board_strangerFits_26 : decode b_Board_strangerFits 26 = .ok (.laload, 1) := by decide +kernel
theorem d_Board_strangerFits_27 : decode b_Board_strangerFits 27 = .ok (.lload_n 1, 1) := by decide +kernel
theorem d_Board_strangerFits_28 : decode b_Board_strangerFits 28 = .ok (.invokestatic 48, 3) := by decide +kernel
theorem d_Board_strangerFits_31 : decode b_Board_strangerFits 31 = .ok (.ifCond .eq 5, 3) := by decide +kernel
theorem d_Board_strangerFits_34 : decode b_Board_strangerFits 34 = .ok (.iconst 1, 1) := by decide +kernel
theorem d_Board_strangerFits_35 : decode b_Board_strangerFits 35 = .ok (.ireturn, 1) := by decide +kernel
theorem d_Board_strangerFits_36 : decode b_Board_strangerFits 36 = .ok (.iinc 5 1, 3) := by decide +kernel
theorem d_Board_strangerFits_39 : decode b_Board_strangerFits 39 = .ok (.goto (-36), 3) := by decide +kernel
theorem d_Board_strangerFits_42 : decode b_Board_strangerFits 42 = .ok (.iconst 0, 1) := by decide +kernel
theorem d_Board_strangerFits_43 : decode b_Board_strangerFits 43 = .ok (.ireturn, 1) := by decide +kernel
theorem d_Search_goBack_0 : decode b_Search_goBack 0 = .ok (.aload_n 0, 1) := by decide +kernel
theorem d_Search_goBack_1 : decode b_Search_goBack 1 = .ok (.getfield 23, 3) := by decide +kernel
theorem d_Search_goBack_4 : decode b_Search_goBack 4 = .ok (.ifCond .lt 80, 3) := by decide +kernel
theorem d_Search_goBack_7 : decode b_Search_goBack 7 = .ok (.aload_n 0, 1) := by decide +kernel
theorem d_Search_goBack_8 : decode b_Search_goBack 8 = .ok (.getfield 26, 3) := by decide +kernel
theorem d_Search_goBack_11 : decode b_Search_goBack 11 = .ok (.ifCond .lt 47, 3) := by decide +kernel
theorem d_Search_goBack_14 : decode b_Search_goBack 14 = .ok (.aload_n 0, 1) := by decide +kernel
theorem d_Search_goBack_15 : decode b_Search_goBack 15 = .ok (.getfield 15, 3) := by decide +kernel
theorem d_Search_goBack_18 : decode b_Search_goBack 18 = .ok (.getfield 29, 3) := by decide +kernel
theorem d_Search_goBack_21 : decode b_Search_goBack 21 = .ok (.aload_n 0, 1) := by decide +kernel
theorem d_Search_goBack_22 : decode b_Search_goBack 22 = .ok (.getfield 23, 3) := by decide +kernel
theorem d_Search_goBack_25 : decode b_Search_goBack 25 = .ok (.aaload, 1) := by decide +kernel
theorem d_Search_goBack_26 : decode b_Search_goBack 26 = .ok (.aload_n 0, 1) := by decide +kernel
theorem d_Search_goBack_27 : decode b_Search_goBack 27 = .ok (.getfield 26, 3) := by decide +kernel
theorem d_Search_goBack_30 : decode b_Search_goBack 30 = .ok (.iaload, 1) := by decide +kernel
theorem d_Search_goBack_31 : decode b_Search_goBack 31 = .ok (.aload_n 0, 1) := by decide +kernel
theorem d_Search_goBack_32 : decode b_Search_goBack 32 = .ok (.getfield 9, 3) := by decide +kernel
theorem d_Search_goBack_35 : decode b_Search_goBack 35 = .ok (.getfield 61, 3) := by decide +kernel
theorem d_Search_goBack_38 : decode b_Search_goBack 38 = .ok (.iconst 1, 1) := by decide +kernel
theorem d_Search_goBack_39 : decode b_Search_goBack 39 = .ok (.isub, 1) := by decide +kernel
theorem d_Search_goBack_40 : decode b_Search_goBack 40 = .ok (.if_icmp .ge 5, 3) := by decide +kernel
theorem d_Search_goBack_43 : decode b_Search_goBack 43 = .ok (.iconst 1, 1) := by decide +kernel
theorem d_Search_goBack_44 : decode b_Search_goBack 44 = .ok (.ireturn, 1) := by decide +kernel
theorem d_Search_goBack_45 : decode b_Search_goBack 45 = .ok (.aload_n 0, 1) := by decide +kernel
theorem d_Search_goBack_46 : decode b_Search_goBack 46 = .ok (.dup, 1) := by decide +kernel
theorem d_Search_goBack_47 : decode b_Search_goBack 47 = .ok (.getfield 26, 3) := by decide +kernel
theorem d_Search_goBack_50 : decode b_Search_goBack 50 = .ok (.iconst 1, 1) := by decide +kernel
theorem d_Search_goBack_51 : decode b_Search_goBack 51 = .ok (.isub, 1) := by decide +kernel
theorem d_Search_goBack_52 : decode b_Search_goBack 52 = .ok (.putfield 26, 3) := by decide +kernel
theorem d_Search_goBack_55 : decode b_Search_goBack 55 = .ok (.goto (-48), 3) := by decide +kernel
theorem d_Search_goBack_58 : decode b_Search_goBack 58 = .ok (.aload_n 0, 1) := by decide +kernel
theorem d_Search_goBack_59 : decode b_Search_goBack 59 = .ok (.aload_n 0, 1) := by decide +kernel
theorem d_Search_goBack_60 : decode b_Search_goBack 60 = .ok (.getfield 9, 3) := by decide +kernel
theorem d_Search_goBack_63 : decode b_Search_goBack 63 = .ok (.getfield 51, 3) := by decide +kernel
theorem d_Search_goBack_66 : decode b_Search_goBack 66 = .ok (.iconst 1, 1) := by decide +kernel
theorem d_Search_goBack_67 : decode b_Search_goBack 67 = .ok (.isub, 1) := by decide +kernel
theorem d_Search_goBack_68 : decode b_Search_goBack 68 = .ok (.putfield 26, 3) := by decide +kernel
theorem d_Search_goBack_71 : decode b_Search_goBack 71 = .ok (.aload_n 0, 1) := by decide +kernel
theorem d_Search_goBack_72 : decode b_Search_goBack 72 = .ok (.dup, 1) := by decide +kernel
theorem d_Search_goBack_73 : decode b_Search_goBack 73 = .ok (.getfield 23, 3) := by decide +kernel
theorem d_Search_goBack_76 : decode b_Search_goBack 76 = .ok (.iconst 1, 1) := by decide +kernel
theorem d_Search_goBack_77 : decode b_Search_goBack 77 = .ok (.isub, 1) := by decide +kernel
theorem d_Search_goBack_78 : decode b_Search_goBack 78 = .ok (.putfield 23, 3) := by decide +kernel
theorem d_Search_goBack_81 : decode b_Search_goBack 81 = .ok (.goto (-81), 3) := by decide +kernel
theorem d_Search_goBack_84 : decode b_Search_goBack 84 = .ok (.iconst 0, 1) := by decide +kernel
theorem d_Search_goBack_85 : decode b_Search_goBack 85 = .ok (.ireturn, 1) := by decide +kernel
theorem d_Search_goOn_0 : decode b_Search_goOn 0 = .ok (.aload_n 0, 1) := by decide +kernel
theorem d_Search_goOn_1 : decode b_Search_goOn 1 = .ok (.getfield 26, 3) := by decide +kernel
theorem d_Search_goOn_4 : decode b_Search_goOn 4 = .ok (.aload_n 0, 1) := by decide +kernel
theorem d_Search_goOn_5 : decode b_Search_goOn 5 = .ok (.getfield 9, 3) := by decide +kernel
theorem d_Search_goOn_8 : decode b_Search_goOn 8 = .ok (.getfield 51, 3) := by decide +kernel
theorem d_Search_goOn_11 : decode b_Search_goOn 11 = .ok (.iconst 1, 1) := by decide +kernel
theorem d_Search_goOn_12 : decode b_Search_goOn 12 = .ok (.isub, 1) := by decide +kernel
theorem d_Search_goOn_13 : decode b_Search_goOn 13 = .ok (.if_icmp .ge 16, 3) := by decide +kernel
theorem d_Search_goOn_16 : decode b_Search_goOn 16 = .ok (.aload_n 0, 1) := by decide +kernel
theorem d_Search_goOn_17 : decode b_Search_goOn 17 = .ok (.dup, 1) := by decide +kernel
theorem d_Search_goOn_18 : decode b_Search_goOn 18 = .ok (.getfield 26, 3) := by decide +kernel
theorem d_Search_goOn_21 : decode b_Search_goOn 21 = .ok (.iconst 1, 1) := by decide +kernel
theorem d_Search_goOn_22 : decode b_Search_goOn 22 = .ok (.iadd, 1) := by decide +kernel
theorem d_Search_goOn_23 : decode b_Search_goOn 23 = .ok (.putfield 26, 3) := by decide +kernel
theorem d_Search_goOn_26 : decode b_Search_goOn 26 = .ok (.goto 39, 3) := by decide +kernel
theorem d_Search_goOn_29 : decode b_Search_goOn 29 = .ok (.aload_n 0, 1) := by decide +kernel
theorem d_Search_goOn_30 : decode b_Search_goOn 30 = .ok (.getfield 23, 3) := by decide +kernel
theorem d_Search_goOn_33 : decode b_Search_goOn 33 = .ok (.aload_n 0, 1) := by decide +kernel
theorem d_Search_goOn_34 : decode b_Search_goOn 34 = .ok (.getfield 15, 3) := by decide +kernel
theorem d_Search_goOn_37 : decode b_Search_goOn 37 = .ok (.getfield 58, 3) := by decide +kernel
theorem d_Search_goOn_40 : decode b_Search_goOn 40 = .ok (.iconst 1, 1) := by decide +kernel
theorem d_Search_goOn_41 : decode b_Search_goOn 41 = .ok (.isub, 1) := by decide +kernel
theorem d_Search_goOn_42 : decode b_Search_goOn 42 = .ok (.if_icmp .ge 21, 3) := by decide +kernel
theorem d_Search_goOn_45 : decode b_Search_goOn 45 = .ok (.aload_n 0, 1) := by decide +kernel
theorem d_Search_goOn_46 : decode b_Search_goOn 46 = .ok (.dup, 1) := by decide +kernel
theorem d_Search_goOn_47 : decode b_Search_goOn 47 = .ok (.getfield 23, 3) := by decide +kernel
theorem d_Search_goOn_50 : decode b_Search_goOn 50 = .ok (.iconst 1, 1) := by decide +kernel
theorem d_Search_goOn_51 : decode b_Search_goOn 51 = .ok (.iadd, 1) := by decide +kernel
theorem d_Search_goOn_52 : decode b_Search_goOn 52 = .ok (.putfield 23, 3) := by decide +kernel
theorem d_Search_goOn_55 : decode b_Search_goOn 55 = .ok (.aload_n 0, 1) := by decide +kernel
theorem d_Search_goOn_56 : decode b_Search_goOn 56 = .ok (.iconst 0, 1) := by decide +kernel
theorem d_Search_goOn_57 : decode b_Search_goOn 57 = .ok (.putfield 26, 3) := by decide +kernel
theorem d_Search_goOn_60 : decode b_Search_goOn 60 = .ok (.goto 5, 3) := by decide +kernel
theorem d_Search_goOn_63 : decode b_Search_goOn 63 = .ok (.iconst 0, 1) := by decide +kernel
theorem d_Search_goOn_64 : decode b_Search_goOn 64 = .ok (.ireturn, 1) := by decide +kernel
theorem d_Search_goOn_65 : decode b_Search_goOn 65 = .ok (.aload_n 0, 1) := by decide +kernel
theorem d_Search_goOn_66 : decode b_Search_goOn 66 = .ok (.getfield 15, 3) := by decide +kernel
theorem d_Search_goOn_69 : decode b_Search_goOn 69 = .ok (.getfield 29, 3) := by decide +kernel
theorem d_Search_goOn_72 : decode b_Search_goOn 72 = .ok (.aload_n 0, 1) := by decide +kernel
theorem d_Search_goOn_73 : decode b_Search_goOn 73 = .ok (.getfield 23, 3) := by decide +kernel
theorem d_Search_goOn_76 : decode b_Search_goOn 76 = .ok (.aaload, 1) := by decide +kernel
theorem d_Search_goOn_77 : decode b_Search_goOn 77 = .ok (.aload_n 0, 1) := by decide +kernel
theorem d_Search_goOn_78 : decode b_Search_goOn 78 = .ok (.getfield 26, 3) := by decide +kernel
theorem d_Search_goOn_81 : decode b_Search_goOn 81 = .ok (.iconst (-1), 1) := by decide +kernel
theorem d_Search_goOn_82 : decode b_Search_goOn 82 = .ok (.iastore, 1) := by decide +kernel
theorem d_Search_goOn_83 : decode b_Search_goOn 83 = .ok (.iconst 1, 1) := by decide +kernel
theorem d_Search_goOn_84 : decode b_Search_goOn 84 = .ok (.ireturn, 1) := by decide +kernel
theorem d_MK_cut_0 : decode b_MK_cut 0 = .ok (.aload_n 0, 1) := by decide +kernel
theorem d_MK_cut_1 : decode b_MK_cut 1 = .ok (.iload_n 1, 1) := by decide +kernel
theorem d_MK_cut_2 : decode b_MK_cut 2 = .ok (.invokevirtual 72, 3) := by decide +kernel
theorem d_MK_cut_5 : decode b_MK_cut 5 = .ok (.aload_n 0, 1) := by decide +kernel
theorem d_MK_cut_6 : decode b_MK_cut 6 = .ok (.iload_n 2, 1) := by decide +kernel
theorem d_MK_cut_7 : decode b_MK_cut 7 = .ok (.invokevirtual 121, 3) := by decide +kernel
theorem d_MK_cut_10 : decode b_MK_cut 10 = .ok (.aload_n 0, 1) := by decide +kernel
theorem d_MK_cut_11 : decode b_MK_cut 11 = .ok (.getfield 63, 3) := by decide +kernel
theorem d_MK_cut_14 : decode b_MK_cut 14 = .ok (.ifCond .eq 17, 3) := by decide +kernel
theorem d_MK_cut_17 : decode b_MK_cut 17 = .ok (.aload_n 0, 1) := by decide +kernel
theorem d_MK_cut_18 : decode b_MK_cut 18 = .ok (.getfield 32, 3) := by decide +kernel
theorem d_MK_cut_21 : decode b_MK_cut 21 = .ok (.getfield 124, 3) := by decide +kernel
theorem d_MK_cut_24 : decode b_MK_cut 24 = .ok (.iload_n 1, 1) := by decide +kernel
theorem d_MK_cut_25 : decode b_MK_cut 25 = .ok (.aaload, 1) := by decide +kernel
theorem d_MK_cut_26 : decode b_MK_cut 26 = .ok (.iload_n 2, 1) := by decide +kernel
theorem d_MK_cut_27 : decode b_MK_cut 27 = .ok (.iaload, 1) := by decide +kernel
theorem d_MK_cut_28 : decode b_MK_cut 28 = .ok (.goto 4, 3) := by decide +kernel
theorem d_MK_cut_31 : decode b_MK_cut 31 = .ok (.iconst (-1), 1) := by decide +kernel
theorem d_MK_cut_32 : decode b_MK_cut 32 = .ok (.ireturn, 1) := by decide +kernel
theorem d_MK_needPin_0 : decode b_MK_needPin 0 = .ok (.iload_n 1, 1) := by decide +kernel
theorem d_MK_needPin_1 : decode b_MK_needPin 1 = .ok (.ifCond .lt 14, 3) := by decide +kernel
theorem d_MK_needPin_4 : decode b_MK_needPin 4 = .ok (.iload_n 1, 1) := by decide +kernel
theorem d_MK_needPin_5 : decode b_MK_needPin 5 = .ok (.aload_n 0, 1) := by decide +kernel
theorem d_MK_needPin_6 : decode b_MK_needPin 6 = .ok (.getfield 23, 3) := by decide +kernel
theorem d_MK_needPin_9 : decode b_MK_needPin 9 = .ok (.getfield 166, 3) := by decide +kernel
theorem d_MK_needPin_12 : decode b_MK_needPin 12 = .ok (.if_icmp .lt 13, 3) := by decide +kernel
theorem d_MK_needPin_15 : decode b_MK_needPin 15 = .ok (.new 87, 3) := by decide +kernel
theorem d_MK_needPin_18 : decode b_MK_needPin 18 = .ok (.dup, 1) := by decide +kernel
theorem d_MK_needPin_19 : decode b_MK_needPin 19 = .ok (.ldc 169, 2) := by decide +kernel
theorem d_MK_needPin_21 : decode b_MK_needPin 21 = .ok (.invokespecial 91, 3) := by decide +kernel
theorem d_MK_needPin_24 : decode b_MK_needPin 24 = .ok (.athrow, 1) := by decide +kernel
theorem d_MK_needPin_25 : decode b_MK_needPin 25 = .ok (.return_, 1) := by decide +kernel
theorem d_MK_holds_0 : decode b_MK_holds 0 = .ok (.aload_n 0, 1) := by decide +kernel
theorem d_MK_holds_1 : decode b_MK_holds 1 = .ok (.iload_n 1, 1) := by decide +kernel
theorem d_MK_holds_2 : decode b_MK_holds 2 = .ok (.invokevirtual 76, 3) := by decide +kernel
theorem d_MK_holds_5 : decode b_MK_holds 5 = .ok (.aload_n 0, 1) := by decide +kernel
theorem d_MK_holds_6 : decode b_MK_holds 6 = .ok (.iload_n 2, 1) := by decide +kernel
theorem d_MK_holds_7 : decode b_MK_holds 7 = .ok (.invokevirtual 121, 3) := by decide +kernel
theorem d_MK_holds_10 : decode b_MK_holds 10 = .ok (.aload_n 0, 1) := by decide +kernel
theorem d_MK_holds_11 : decode b_MK_holds 11 = .ok (.iload_n 3, 1) := by decide +kernel
theorem d_MK_holds_12 : decode b_MK_holds 12 = .ok (.invokevirtual 95, 3) := by decide +kernel
theorem d_MK_holds_15 : decode b_MK_holds 15 = .ok (.aload_n 0, 1) := by decide +kernel
theorem d_MK_holds_16 : decode b_MK_holds 16 = .ok (.getfield 63, 3) := by decide +kernel
theorem d_MK_holds_19 : decode b_MK_holds 19 = .ok (.ifCond .eq 23, 3) := by decide +kernel
theorem d_MK_holds_22 : decode b_MK_holds 22 = .ok (.aload_n 0, 1) := by decide +kernel
theorem d_MK_holds_23 : decode b_MK_holds 23 = .ok (.getfield 32, 3) := by decide +kernel
theorem d_MK_holds_26 : decode b_MK_holds 26 = .ok (.iload_n 2, 1) := by decide +kernel
theorem d_MK_holds_27 : decode b_MK_holds 27 = .ok (.iload_n 3, 1) := by decide +kernel
theorem d_MK_holds_28 : decode b_MK_holds 28 = .ok (.invokevirtual 128, 3) := by decide +kernel
theorem d_MK_holds_31 : decode b_MK_holds 31 = .ok (.iload_n 1, 1) := by decide +kernel
theorem d_MK_holds_32 : decode b_MK_holds 32 = .ok (.ishr, 1) := by decide +kernel
theorem d_MK_holds_33 : decode b_MK_holds 33 = .ok (.iconst 1, 1) := by decide +kernel
theorem d_MK_holds_34 : decode b_MK_holds 34 = .ok (.iand, 1) := by decide +kernel
theorem d_MK_holds_35 : decode b_MK_holds 35 = .ok (.ifCond .eq 7, 3) := by decide +kernel
theorem d_MK_holds_38 : decode b_MK_holds 38 = .ok (.iconst 1, 1) := by decide +kernel
theorem d_MK_holds_39 : decode b_MK_holds 39 = .ok (.goto 4, 3) := by decide +kernel
theorem d_MK_holds_42 : decode b_MK_holds 42 = .ok (.iconst 0, 1) := by decide +kernel
theorem d_MK_holds_43 : decode b_MK_holds 43 = .ok (.ireturn, 1) := by decide +kernel
theorem d_Board_doorsHolding_0 : decode b_Board_doorsHolding 0 = .ok (.aload_n 0, 1) := by decide +kernel
theorem d_Board_doorsHolding_1 : decode b_Board_doorsHolding 1 = .ok (.iload_n 1, 1) := by decide +kernel
theorem d_Board_doorsHolding_2 : decode b_Board_doorsHolding 2 = .ok (.iload_n 2, 1) := by decide +kernel
theorem d_Board_doorsHolding_3 : decode b_Board_doorsHolding 3 = .ok (.invokestatic 37, 3) := by decide +kernel
theorem d_Board_doorsHolding_6 : decode b_Board_doorsHolding 6 = .ok (.invokevirtual 41, 3) := by decide +kernel
theorem d_Board_doorsHolding_9 : decode b_Board_doorsHolding 9 = .ok (.ireturn, 1) := by decide +kernel
theorem d_MK_fits_0 : decode b_MK_fits 0 = .ok (.aload_n 0, 1) := by decide +kernel
theorem d_MK_fits_1 : decode b_MK_fits 1 = .ok (.iload_n 1, 1) := by decide +kernel
theorem d_MK_fits_2 : decode b_MK_fits 2 = .ok (.invokevirtual 72, 3) := by decide +kernel
theorem d_MK_fits_5 : decode b_MK_fits 5 = .ok (.aload_n 0, 1) := by decide +kernel
theorem d_MK_fits_6 : decode b_MK_fits 6 = .ok (.iload_n 2, 1) := by decide +kernel
theorem d_MK_fits_7 : decode b_MK_fits 7 = .ok (.invokevirtual 76, 3) := by decide +kernel
theorem d_MK_fits_10 : decode b_MK_fits 10 = .ok (.aload_n 0, 1) := by decide +kernel
theorem d_MK_fits_11 : decode b_MK_fits 11 = .ok (.getfield 63, 3) := by decide +kernel
theorem d_MK_fits_14 : decode b_MK_fits 14 = .ok (.ifCond .eq 22, 3) := by decide +kernel
theorem d_MK_fits_17 : decode b_MK_fits 17 = .ok (.aload_n 0, 1) := by decide +kernel
theorem d_MK_fits_18 : decode b_MK_fits 18 = .ok (.getfield 32, 3) := by decide +kernel
theorem d_MK_fits_21 : decode b_MK_fits 21 = .ok (.iload_n 1, 1) := by decide +kernel
theorem d_MK_fits_22 : decode b_MK_fits 22 = .ok (.invokevirtual 131, 3) := by decide +kernel
theorem d_MK_fits_25 : decode b_MK_fits 25 = .ok (.iload_n 2, 1) := by decide +kernel
theorem d_MK_fits_26 : decode b_MK_fits 26 = .ok (.ishr, 1) := by decide +kernel
theorem d_MK_fits_27 : decode b_MK_fits 27 = .ok (.iconst 1, 1) := by decide +kernel
theorem d_MK_fits_28 : decode b_MK_fits 28 = .ok (.iand, 1) := by decide +kernel
theorem d_MK_fits_29 : decode b_MK_fits 29 = .ok (.ifCond .eq 7, 3) := by decide +kernel
theorem d_MK_fits_32 : decode b_MK_fits 32 = .ok (.iconst 1, 1) := by decide +kernel
theorem d_MK_fits_33 : decode b_MK_fits 33 = .ok (.goto 4, 3) := by decide +kernel
theorem d_MK_fits_36 : decode b_MK_fits 36 = .ok (.iconst 0, 1) := by decide +kernel
theorem d_MK_fits_37 : decode b_MK_fits 37 = .ok (.ireturn, 1) := by decide +kernel
theorem d_MK_left_0 : decode b_MK_left 0 = .ok (.aload_n 0, 1) := by decide +kernel
theorem d_MK_left_1 : decode b_MK_left 1 = .ok (.invokevirtual 143, 3) := by decide +kernel
theorem d_MK_left_4 : decode b_MK_left 4 = .ok (.aload_n 0, 1) := by decide +kernel
theorem d_MK_left_5 : decode b_MK_left 5 = .ok (.getfield 48, 3) := by decide +kernel
theorem d_MK_left_8 : decode b_MK_left 8 = .ok (.iconst 0, 1) := by decide +kernel
theorem d_MK_left_9 : decode b_MK_left 9 = .ok (.invokevirtual 146, 3) := by decide +kernel
theorem d_MK_left_12 : decode b_MK_left 12 = .ok (.ireturn, 1) := by decide +kernel
theorem d_MK_needPlan_0 : decode b_MK_needPlan 0 = .ok (.aload_n 0, 1) := by decide +kernel
theorem d_MK_needPlan_1 : decode b_MK_needPlan 1 = .ok (.getfield 63, 3) := by decide +kernel
theorem d_MK_needPlan_4 : decode b_MK_needPlan 4 = .ok (.ifCond .ne 13, 3) := by decide +kernel
theorem d_MK_needPlan_7 : decode b_MK_needPlan 7 = .ok (.new 56, 3) := by decide +kernel
theorem d_MK_needPlan_10 : decode b_MK_needPlan 10 = .ok (.dup, 1) := by decide +kernel
theorem d_MK_needPlan_11 : decode b_MK_needPlan 11 = .ok (.ldc 176, 2) := by decide +kernel
theorem d_MK_needPlan_13 : decode b_MK_needPlan 13 = .ok (.invokespecial 60, 3) := by decide +kernel
theorem d_MK_needPlan_16 : decode b_MK_needPlan 16 = .ok (.athrow, 1) := by decide +kernel
theorem d_MK_needPlan_17 : decode b_MK_needPlan 17 = .ok (.return_, 1) := by decide +kernel
theorem d_Rows_countFree_0 : decode b_Rows_countFree 0 = .ok (.aload_n 0, 1) := by decide +kernel
theorem d_Rows_countFree_1 : decode b_Rows_countFree 1 = .ok (.iload_n 1, 1) := by decide +kernel
theorem d_Rows_countFree_2 : decode b_Rows_countFree 2 = .ok (.invokevirtual 24, 3) := by decide +kernel
theorem d_Rows_countFree_5 : decode b_Rows_countFree 5 = .ok (.iconst 0, 1) := by decide +kernel
theorem d_Rows_countFree_6 : decode b_Rows_countFree 6 = .ok (.istore_n 2, 1) := by decide +kernel
theorem d_Rows_countFree_7 : decode b_Rows_countFree 7 = .ok (.iconst 0, 1) := by decide +kernel
theorem d_Rows_countFree_8 : decode b_Rows_countFree 8 = .ok (.istore_n 3, 1) := by decide +kernel
theorem d_Rows_countFree_9 : decode b_Rows_countFree 9 = .ok (.iload_n 3, 1) := by decide +kernel
theorem d_Rows_countFree_10 : decode b_Rows_countFree 10 = .ok (.aload_n 0, 1) := by decide +kernel
theorem d_Rows_countFree_11 : decode b_Rows_countFree 11 = .ok (.getfield 16, 3) := by decide +kernel
theorem d_Rows_countFree_14 : decode b_Rows_countFree 14 = .ok (.getfield 28, 3) := by decide +kernel
theorem d_Rows_countFree_17 : decode b_Rows_countFree 17 = .ok (.if_icmp .ge 32, 3) := by decide +kernel
theorem d_Rows_countFree_20 : decode b_Rows_countFree 20 = .ok (.iload_n 2, 1) := by decide +kernel
theorem d_Rows_countFree_21 : decode b_Rows_countFree 21 = .ok (.aload_n 0, 1) := by decide +kernel
theorem d_Rows_countFree_22 : decode b_Rows_countFree 22 = .ok (.getfield 11, 3) := by decide +kernel
theorem d_Rows_countFree_25 : decode b_Rows_countFree 25 = .ok (.iconst 0, 1) := by decide +kernel
theorem d_Rows_countFree_26 : decode b_Rows_countFree 26 = .ok (.aaload, 1) := by decide +kernel
theorem d_Rows_countFree_27 : decode b_Rows_countFree 27 = .ok (.iload_n 3, 1) := by decide +kernel
theorem d_Rows_countFree_28 : decode b_Rows_countFree 28 = .ok (.aload_n 0, 1) := by decide +kernel
theorem d_Rows_countFree_29 : decode b_Rows_countFree 29 = .ok (.getfield 20, 3) := by decide +kernel
theorem d_Rows_countFree_32 : decode b_Rows_countFree 32 = .ok (.iconst 0, 1) := by decide +kernel
theorem d_Rows_countFree_33 : decode b_Rows_countFree 33 = .ok (.iload_n 3, 1) := by decide +kernel
theorem d_Rows_countFree_34 : decode b_Rows_countFree 34 = .ok (.invokevirtual 34, 3) := by decide +kernel
theorem d_Rows_countFree_37 : decode b_Rows_countFree 37 = .ok (.invokestatic 40, 3) := by decide +kernel
theorem d_Rows_countFree_40 : decode b_Rows_countFree 40 = .ok (.iaload, 1) := by decide +kernel
theorem d_Rows_countFree_41 : decode b_Rows_countFree 41 = .ok (.iadd, 1) := by decide +kernel
theorem d_Rows_countFree_42 : decode b_Rows_countFree 42 = .ok (.istore_n 2, 1) := by decide +kernel
theorem d_Rows_countFree_43 : decode b_Rows_countFree 43 = .ok (.iinc 3 1, 3) := by decide +kernel
theorem d_Rows_countFree_46 : decode b_Rows_countFree 46 = .ok (.goto (-37), 3) := by decide +kernel
theorem d_Rows_countFree_49 : decode b_Rows_countFree 49 = .ok (.iload_n 2, 1) := by decide +kernel
theorem d_Rows_countFree_50 : decode b_Rows_countFree 50 = .ok (.aload_n 0, 1) := by decide +kernel
theorem d_Rows_countFree_51 : decode b_Rows_countFree 51 = .ok (.getfield 20, 3) := by decide +kernel
theorem d_Rows_countFree_54 : decode b_Rows_countFree 54 = .ok (.lconst 0, 1) := by decide +kernel
theorem d_Rows_countFree_55 : decode b_Rows_countFree 55 = .ok (.iload_n 1, 1) := by decide +kernel
theorem d_Rows_countFree_56 : decode b_Rows_countFree 56 = .ok (.invokevirtual 43, 3) := by decide +kernel
theorem d_Rows_countFree_59 : decode b_Rows_countFree 59 = .ok (.isub, 1) := by decide +kernel
theorem d_Rows_countFree_60 : decode b_Rows_countFree 60 = .ok (.ireturn, 1) := by decide +kernel
theorem d_Rows_countWays_0 : decode b_Rows_countWays 0 = .ok (.aload_n 0, 1) := by decide +kernel
theorem d_Rows_countWays_1 : decode b_Rows_countWays 1 = .ok (.getfield 16, 3) := by decide +kernel
theorem d_Rows_countWays_4 : decode b_Rows_countWays 4 = .ok (.getfield 57, 3) := by decide +kernel
theorem d_Rows_countWays_7 : decode b_Rows_countWays 7 = .ok (.iconst 1, 1) := by decide +kernel
theorem d_Rows_countWays_8 : decode b_Rows_countWays 8 = .ok (.isub, 1) := by decide +kernel
theorem d_Rows_countWays_9 : decode b_Rows_countWays 9 = .ok (.istore_n 2, 1) := by decide +kernel
theorem d_Rows_countWays_10 : decode b_Rows_countWays 10 = .ok (.iconst 0, 1) := by decide +kernel
theorem d_Rows_countWays_11 : decode b_Rows_countWays 11 = .ok (.istore_n 3, 1) := by decide +kernel
theorem d_Rows_countWays_12 : decode b_Rows_countWays 12 = .ok (.iload_n 3, 1) := by decide +kernel
theorem d_Rows_countWays_13 : decode b_Rows_countWays 13 = .ok (.aload_n 0, 1) := by decide +kernel
theorem d_Rows_countWays_14 : decode b_Rows_countWays 14 = .ok (.getfield 16, 3) := by decide +kernel
theorem d_Rows_countWays_17 : decode b_Rows_countWays 17 = .ok (.getfield 28, 3) := by decide +kernel
theorem d_Rows_countWays_20 : decode b_Rows_countWays 20 = .ok (.if_icmp .ge 49, 3) := by decide +kernel
theorem d_Rows_countWays_23 : decode b_Rows_countWays 23 = .ok (.iconst 0, 1) := by decide +kernel
theorem d_Rows_countWays_24 : decode b_Rows_countWays 24 = .ok (.istore 4, 2) := by decide +kernel
theorem d_Rows_countWays_26 : decode b_Rows_countWays 26 = .ok (.iload 4, 2) := by decide +kernel
theorem d_Rows_countWays_28 : decode b_Rows_countWays 28 = .ok (.bipush 64, 2) := by decide +kernel
theorem d_Rows_countWays_30 : decode b_Rows_countWays 30 = .ok (.if_icmp .ge 33, 3) := by decide +kernel
theorem d_Rows_countWays_33 : decode b_Rows_countWays 33 = .ok (.aload_n 0, 1) := by decide +kernel
theorem d_Rows_countWays_34 : decode b_Rows_countWays 34 = .ok (.getfield 11, 3) := by decide +kernel
theorem d_Rows_countWays_37 : decode b_Rows_countWays 37 = .ok (.iload_n 2, 1) := by decide +kernel
theorem d_Rows_countWays_38 : decode b_Rows_countWays 38 = .ok (.aaload, 1) := by decide +kernel
theorem d_Rows_countWays_39 : decode b_Rows_countWays 39 = .ok (.iload_n 3, 1) := by decide +kernel
theorem d_Rows_countWays_40 : decode b_Rows_countWays 40 = .ok (.iload 4, 2) := by decide +kernel
theorem d_Rows_countWays_42 : decode b_Rows_countWays 42 = .ok (.invokestatic 40, 3) := by decide +kernel
theorem d_Rows_countWays_45 : decode b_Rows_countWays 45 = .ok (.iload 4, 2) := by decide +kernel
theorem d_Rows_countWays_47 : decode b_Rows_countWays 47 = .ok (.iload_n 1, 1) := by decide +kernel
theorem d_Rows_countWays_48 : decode b_Rows_countWays 48 = .ok (.if_icmp .ne 7, 3) := by decide +kernel
theorem d_Rows_countWays_51 : decode b_Rows_countWays 51 = .ok (.iconst 1, 1) := by decide +kernel
theorem d_Rows_countWays_52 : decode b_Rows_countWays 52 = .ok (.goto 4, 3) := by decide +kernel
theorem d_Rows_countWays_55 : decode b_Rows_countWays 55 = .ok (.iconst 0, 1) := by decide +kernel
theorem d_Rows_countWays_56 : decode b_Rows_countWays 56 = .ok (.iastore, 1) := by decide +kernel
theorem d_Rows_countWays_57 : decode b_Rows_countWays 57 = .ok (.iinc 4 1, 3) := by decide +kernel
theorem d_Rows_countWays_60 : decode b_Rows_countWays 60 = .ok (.goto (-34), 3) := by decide +kernel
theorem d_Rows_countWays_63 : decode b_Rows_countWays 63 = .ok (.iinc 3 1, 3) := by decide +kernel
theorem d_Rows_countWays_66 : decode b_Rows_countWays 66 = .ok (.goto (-54), 3) := by decide +kernel
theorem d_Rows_countWays_69 : decode b_Rows_countWays 69 = .ok (.iload_n 2, 1) := by decide +kernel
theorem d_Rows_countWays_70 : decode b_Rows_countWays 70 = .ok (.iconst 1, 1) := by decide +kernel
theorem d_Rows_countWays_71 : decode b_Rows_countWays 71 = .ok (.isub, 1) := by decide +kernel
theorem d_Rows_countWays_72 : decode b_Rows_countWays 72 = .ok (.istore_n 3, 1) := by decide +kernel
theorem d_Rows_countWays_73 : decode b_Rows_countWays 73 = .ok (.iload_n 3, 1) := by decide +kernel
theorem d_Rows_countWays_74 : decode b_Rows_countWays 74 = .ok (.ifCond .lt 14, 3) := by decide +kernel
theorem d_Rows_countWays_77 : decode b_Rows_countWays 77 = .ok (.aload_n 0, 1) := by decide +kernel
theorem d_Rows_countWays_78 : decode b_Rows_countWays 78 = .ok (.iload_n 3, 1) := by decide +kernel
theorem d_Rows_countWays_79 : decode b_Rows_countWays 79 = .ok (.invokevirtual 72, 3) := by decide +kernel
theorem d_Rows_countWays_82 : decode b_Rows_countWays 82 = .ok (.iinc 3 (-1), 3) := by decide +kernel
theorem d_Rows_countWays_85 : decode b_Rows_countWays 85 = .ok (.goto (-12), 3) := by decide +kernel
theorem d_Rows_countWays_88 : decode b_Rows_countWays 88 = .ok (.return_, 1) := by decide +kernel
theorem d_Rows_state_0 : decode b_Rows_state 0 = .ok (.iload_n 0, 1) := by decide +kernel
theorem d_Rows_state_1 : decode b_Rows_state 1 = .ok (.bipush 64, 2) := by decide +kernel
theorem d_Rows_state_3 : decode b_Rows_state 3 = .ok (.imul, 1) := by decide +kernel
theorem d_Rows_state_4 : decode b_Rows_state 4 = .ok (.iload_n 1, 1) := by decide +kernel
theorem d_Rows_state_5 : decode b_Rows_state 5 = .ok (.iadd, 1) := by decide +kernel
theorem d_Rows_state_6 : decode b_Rows_state 6 = .ok (.ireturn, 1) := by decide +kernel
theorem d_Rows_countWaysBehind_0 : decode b_Rows_countWaysBehind 0 = .ok (.iconst 0, 1) := by decide +kernel
theorem d_Rows_countWaysBehind_1 : decode b_Rows_countWaysBehind 1 = .ok (.istore_n 2, 1) := by decide +kernel
theorem d_Rows_countWaysBehind_2 : decode b_Rows_countWaysBehind 2 = .ok (.iload_n 2, 1) := by decide +kernel
theorem d_Rows_countWaysBehind_3 : decode b_Rows_countWaysBehind 3 = .ok (.sipush 512, 3) := by decide +kernel
theorem d_Rows_countWaysBehind_6 : decode b_Rows_countWaysBehind 6 = .ok (.if_icmp .ge 18, 3) := by decide +kernel
theorem d_Rows_countWaysBehind_9 : decode b_Rows_countWaysBehind 9 = .ok (.aload_n 0, 1) := by decide +kernel
theorem d_Rows_countWaysBehind_10 : decode b_Rows_countWaysBehind 10 = .ok (.getfield 11, 3) := by decide +kernel
theorem d_Rows_countWaysBehind_13 : decode b_Rows_countWaysBehind 13 = .ok (.iload_n 1, 1) := by decide +kernel
theorem d_Rows_countWaysBehind_14 : decode b_Rows_countWaysBehind 14 = .ok (.aaload, 1) := by decide +kernel
theorem d_Rows_countWaysBehind_15 : decode b_Rows_countWaysBehind 15 = .ok (.iload_n 2, 1) := by decide +kernel
theorem d_Rows_countWaysBehind_16 : decode b_Rows_countWaysBehind 16 = .ok (.iconst 0, 1) := by decide +kernel
theorem d_Rows_countWaysBehind_17 : decode b_Rows_countWaysBehind 17 = .ok (.iastore, 1) := by decide +kernel
theorem d_Rows_countWaysBehind_18 : decode b_Rows_countWaysBehind 18 = .ok (.iinc 2 1, 3) := by decide +kernel
theorem d_Rows_countWaysBehind_21 : decode b_Rows_countWaysBehind 21 = .ok (.goto (-19), 3) := by decide +kernel
theorem d_Rows_countWaysBehind_24 : decode b_Rows_countWaysBehind 24 = .ok (.iconst 0, 1) := by decide +kernel
theorem d_Rows_countWaysBehind_25 : decode b_Rows_countWaysBehind 25 = .ok (.istore_n 2, 1) := by decide +kernel
theorem d_Rows_countWaysBehind_26 : decode b_Rows_countWaysBehind 26 = .ok (.iload_n 2, 1) := by decide +kernel
theorem d_Rows_countWaysBehind_27 : decode b_Rows_countWaysBehind 27 = .ok (.aload_n 0, 1) := by decide +kernel
theorem d_Rows_countWaysBehind_28 : decode b_Rows_countWaysBehind 28 = .ok (.getfield 16, 3) := by decide +kernel
theorem d_Rows_countWaysBehind_31 : decode b_Rows_countWaysBehind 31 = .ok (.getfield 28, 3) := by decide +kernel
theorem d_Rows_countWaysBehind_34 : decode b_Rows_countWaysBehind 34 = .ok (.if_icmp .ge 64, 3) := by decide +kernel
theorem d_Rows_countWaysBehind_37 : decode b_Rows_countWaysBehind 37 = .ok (.aload_n 0, 1) := by decide +kernel
theorem d_Rows_countWaysBehind_38 : decode b_Rows_countWaysBehind 38 = .ok (.getfield 20, 3) := by decide +kernel
theorem d_Rows_countWaysBehind_41 : decode b_Rows_countWaysBehind 41 = .ok (.iload_n 1, 1) := by decide +kernel
theorem d_Rows_countWaysBehind_42 : decode b_Rows_countWaysBehind 42 = .ok (.iconst 1, 1) := by decide +kernel
theorem d_Rows_countWaysBehind_43 : decode b_Rows_countWaysBehind 43 = .ok (.iadd, 1) := by decide +kernel
theorem d_Rows_countWaysBehind_44 : decode b_Rows_countWaysBehind 44 = .ok (.iload_n 2, 1) := by decide +kernel
theorem d_Rows_countWaysBehind_45 : decode b_Rows_countWaysBehind 45 = .ok (.invokevirtual 34, 3) := by decide +kernel
theorem d_Rows_countWaysBehind_48 : decode b_Rows_countWaysBehind 48 = .ok (.istore_n 3, 1) := by decide +kernel
theorem d_Rows_countWaysBehind_49 : decode b_Rows_countWaysBehind 49 = .ok (.iconst 0, 1) := by decide +kernel
theorem d_Rows_countWaysBehind_50 : decode b_Rows_countWaysBehind 50 = .ok (.istore 4, 2) := by decide +kernel
theorem d_Rows_countWaysBehind_52 : decode b_Rows_countWaysBehind 52 = .ok (.iload 4, 2) := by decide +kernel
theorem d_Rows_countWaysBehind_54 : decode b_Rows_countWaysBehind 54 = .ok (.aload_n 0, 1) := by decide +kernel
theorem d_Rows_countWaysBehind_55 : decode b_Rows_countWaysBehind 55 = .ok (.getfield 16, 3) := by decide +kernel
theorem d_Rows_countWaysBehind_58 : decode b_Rows_countWaysBehind 58 = .ok (.getfield 28, 3) := by decide +kernel
theorem d_Rows_countWaysBehind_61 : decode b_Rows_countWaysBehind 61 = .ok (.if_icmp .ge 31, 3) := by decide +kernel
theorem d_Rows_countWaysBehind_64 : decode b_Rows_countWaysBehind 64 = .ok (.aload_n 0, 1) := by decide +kernel
theorem d_Rows_countWaysBehind_65 : decode b_Rows_countWaysBehind 65 = .ok (.getfield 16, 3) := by decide +kernel
theorem d_Rows_countWaysBehind_68 : decode b_Rows_countWaysBehind 68 = .ok (.iload 4, 2) := by decide +kernel
theorem d_Rows_countWaysBehind_70 : decode b_Rows_countWaysBehind 70 = .ok (.iload_n 2, 1) := by decide +kernel
theorem d_Rows_countWaysBehind_71 : decode b_Rows_countWaysBehind 71 = .ok (.invokevirtual 68, 3) := by decide +kernel
theorem d_Rows_countWaysBehind_74 : decode b_Rows_countWaysBehind 74 = .ok (.ifCond .eq 12, 3) := by decide +kernel
theorem d_Rows_countWaysBehind_77 : decode b_Rows_countWaysBehind 77 = .ok (.aload_n 0, 1) := by decide +kernel
theorem d_Rows_countWaysBehind_78 : decode b_Rows_countWaysBehind 78 = .ok (.iload_n 1, 1) := by decide +kernel
theorem d_Rows_countWaysBehind_79 : decode b_Rows_countWaysBehind 79 = .ok (.iload 4, 2) := by decide +kernel
theorem d_Rows_countWaysBehind_81 : decode b_Rows_countWaysBehind 81 = .ok (.iload_n 2, 1) := by decide +kernel
theorem d_Rows_countWaysBehind_82 : decode b_Rows_countWaysBehind 82 = .ok (.iload_n 3, 1) := by decide +kernel
theorem d_Rows_countWaysBehind_83 : decode b_Rows_countWaysBehind 83 = .ok (.invokevirtual 75, 3) := by decide +kernel
theorem d_Rows_countWaysBehind_86 : decode b_Rows_countWaysBehind 86 = .ok (.iinc 4 1, 3) := by decide +kernel
theorem d_Rows_countWaysBehind_89 : decode b_Rows_countWaysBehind 89 = .ok (.goto (-37), 3) := by decide +kernel
theorem d_Rows_countWaysBehind_92 : decode b_Rows_countWaysBehind 92 = .ok (.iinc 2 1, 3) := by decide +kernel
theorem d_Rows_countWaysBehind_95 : decode b_Rows_countWaysBehind 95 = .ok (.goto (-69), 3) := by decide +kernel
theorem d_Rows_countWaysBehind_98 : decode b_Rows_countWaysBehind 98 = .ok (.return_, 1) := by decide +kernel
theorem d_Rows_addWays_0 : decode b_Rows_addWays 0 = .ok (.iconst 0, 1) := by decide +kernel
theorem d_Rows_addWays_1 : decode b_Rows_addWays 1 = .ok (.istore 5, 2) := by decide +kernel
theorem d_Rows_addWays_3 : decode b_Rows_addWays 3 = .ok (.iload 5, 2) := by decide +kernel
theorem d_Rows_addWays_5 : decode b_Rows_addWays 5 = .ok (.bipush 64, 2) := by decide +kernel
theorem d_Rows_addWays_7 : decode b_Rows_addWays 7 = .ok (.if_icmp .ge 43, 3) := by decide +kernel
theorem d_Rows_addWays_10 : decode b_Rows_addWays 10 = .ok (.aload_n 0, 1) := by decide +kernel
theorem d_Rows_addWays_11 : decode b_Rows_addWays 11 = .ok (.getfield 11, 3) := by decide +kernel
theorem d_Rows_addWays_14 : decode b_Rows_addWays 14 = .ok (.iload_n 1, 1) := by decide +kernel
theorem d_Rows_addWays_15 : decode b_Rows_addWays 15 = .ok (.aaload, 1) := by decide +kernel
theorem d_Rows_addWays_16 : decode b_Rows_addWays 16 = .ok (.iload_n 2, 1) := by decide +kernel
theorem d_Rows_addWays_17 : decode b_Rows_addWays 17 = .ok (.iload 5, 2) := by decide +kernel
theorem d_Rows_addWays_19 : decode b_Rows_addWays 19 = .ok (.invokestatic 40, 3) := by decide +kernel
theorem d_Rows_addWays_22 : decode b_Rows_addWays 22 = .ok (.dup2, 1) := by decide +kernel
theorem d_Rows_addWays_23 : decode b_Rows_addWays 23 = .ok (.iaload, 1) := by decide +kernel
theorem d_Rows_addWays_24 : decode b_Rows_addWays 24 = .ok (.aload_n 0, 1) := by decide +kernel
theorem d_Rows_addWays_25 : decode b_Rows_addWays 25 = .ok (.getfield 11, 3) := by decide +kernel
theorem d_Rows_addWays_28 : decode b_Rows_addWays 28 = .ok (.iload_n 1, 1) := by decide +kernel
theorem d_Rows_addWays_29 : decode b_Rows_addWays 29 = .ok (.iconst 1, 1) := by decide +kernel
theorem d_Rows_addWays_30 : decode b_Rows_addWays 30 = .ok (.iadd, 1) := by decide +kernel
theorem d_Rows_addWays_31 : decode b_Rows_addWays 31 = .ok (.aaload, 1) := by decide +kernel
theorem d_Rows_addWays_32 : decode b_Rows_addWays 32 = .ok (.iload_n 3, 1) := by decide +kernel
theorem d_Rows_addWays_33 : decode b_Rows_addWays 33 = .ok (.iload 5, 2) := by decide +kernel
theorem d_Rows_addWays_35 : decode b_Rows_addWays 35 = .ok (.iload 4, 2) := by decide +kernel
theorem d_Rows_addWays_37 : decode b_Rows_addWays 37 = .ok (.iand, 1) := by decide +kernel
theorem d_Rows_addWays_38 : decode b_Rows_addWays 38 = .ok (.invokestatic 40, 3) := by decide +kernel
theorem d_Rows_addWays_41 : decode b_Rows_addWays 41 = .ok (.iaload, 1) := by decide +kernel
theorem d_Rows_addWays_42 : decode b_Rows_addWays 42 = .ok (.iadd, 1) := by decide +kernel
theorem d_Rows_addWays_43 : decode b_Rows_addWays 43 = .ok (.iastore, 1) := by decide +kernel
theorem d_Rows_addWays_44 : decode b_Rows_addWays 44 = .ok (.iinc 5 1, 3) := by decide +kernel
theorem d_Rows_addWays_47 : decode b_Rows_addWays 47 = .ok (.goto (-44), 3) := by decide +kernel
theorem d_Rows_addWays_50 : decode b_Rows_addWays 50 = .ok (.return_, 1) := by decide +kernel
theorem d_Board_countKeys_0 : decode b_Board_countKeys 0 = .ok (.iconst 0, 1) := by decide +kernel
theorem d_Board_countKeys_1 : decode b_Board_countKeys 1 = .ok (.istore 4, 2) := by decide +kernel
theorem d_Board_countKeys_3 : decode b_Board_countKeys 3 = .ok (.iconst 0, 1) := by decide +kernel
theorem d_Board_countKeys_4 : decode b_Board_countKeys 4 = .ok (.istore 5, 2) := by decide +kernel
theorem d_Board_countKeys_6 : decode b_Board_countKeys 6 = .ok (.iload 5, 2) := by decide +kernel
theorem d_Board_countKeys_8 : decode b_Board_countKeys 8 = .ok (.aload_n 0, 1) := by decide +kernel
theorem d_Board_countKeys_9 : decode b_Board_countKeys 9 = .ok (.getfield 45, 3) := by decide +kernel
theorem d_Board_countKeys_12 : decode b_Board_countKeys 12 = .ok (.if_icmp .ge 36, 3) := by decide +kernel
theorem d_Board_countKeys_15 : decode b_Board_countKeys 15 = .ok (.lload_n 1, 1) := by decide +kernel
theorem d_Board_countKeys_16 : decode b_Board_countKeys 16 = .ok (.aload_n 0, 1) := by decide +kernel
theorem d_Board_countKeys_17 : decode b_Board_countKeys 17 = .ok (.getfield 20, 3) := by decide +kernel
theorem d_Board_countKeys_20 : decode b_Board_countKeys 20 = .ok (.iload 5, 2) := by decide +kernel
theorem d_Board_countKeys_22 : decode b_Board_countKeys 22 = .ok (.laload, 1) := by decide +kernel
theorem d_Board_countKeys_23 : decode b_Board_countKeys 23 = .ok (.invokestatic 48, 3) := by decide +kernel
theorem d_Board_countKeys_26 : decode b_Board_countKeys 26 = .ok (.ifCond .eq 16, 3) := by decide +kernel
theorem d_Board_countKeys_29 : decode b_Board_countKeys 29 = .ok (.aload_n 0, 1) := by decide +kernel
theorem d_Board_countKeys_30 : decode b_Board_countKeys 30 = .ok (.iload 5, 2) := by decide +kernel
theorem d_Board_countKeys_32 : decode b_Board_countKeys 32 = .ok (.invokevirtual 52, 3) := by decide +kernel
theorem d_Board_countKeys_35 : decode b_Board_countKeys 35 = .ok (.iload_n 3, 1) := by decide +kernel
theorem d_Board_countKeys_36 : decode b_Board_countKeys 36 = .ok (.if_icmp .ne 6, 3) := by decide +kernel
theorem d_Board_countKeys_39 : decode b_Board_countKeys 39 = .ok (.iinc 4 1, 3) := by decide +kernel
theorem d_Board_countKeys_42 : decode b_Board_countKeys 42 = .ok (.iinc 5 1, 3) := by decide +kernel
theorem d_Board_countKeys_45 : decode b_Board_countKeys 45 = .ok (.goto (-39), 3) := by decide +kernel
theorem d_Board_countKeys_48 : decode b_Board_countKeys 48 = .ok (.iload 4, 2) := by decide +kernel
theorem d_Board_countKeys_50 : decode b_Board_countKeys 50 = .ok (.ireturn, 1) := by decide +kernel
theorem d_MK_add_0 : decode b_MK_add 0 = .ok (.iload_n 1, 1) := by decide +kernel
theorem d_MK_add_1 : decode b_MK_add 1 = .ok (.ifCond .lt 14, 3) := by decide +kernel
theorem d_MK_add_4 : decode b_MK_add 4 = .ok (.iload_n 1, 1) := by decide +kernel
theorem d_MK_add_5 : decode b_MK_add 5 = .ok (.aload_n 0, 1) := by decide +kernel
theorem d_MK_add_6 : decode b_MK_add 6 = .ok (.getfield 32, 3) := by decide +kernel
theorem d_MK_add_9 : decode b_MK_add 9 = .ok (.invokevirtual 149, 3) := by decide +kernel
theorem d_MK_add_12 : decode b_MK_add 12 = .ok (.if_icmp .le 13, 3) := by decide +kernel
theorem d_MK_add_15 : decode b_MK_add 15 = .ok (.new 87, 3) := by decide +kernel
theorem d_MK_add_18 : decode b_MK_add 18 = .ok (.dup, 1) := by decide +kernel
theorem d_MK_add_19 : decode b_MK_add 19 = .ok (.ldc 153, 2) := by decide +kernel
theorem d_MK_add_21 : decode b_MK_add 21 = .ok (.invokespecial 91, 3) := by decide +kernel
theorem d_MK_add_24 : decode b_MK_add 24 = .ok (.athrow, 1) := by decide +kernel
theorem d_MK_add_25 : decode b_MK_add 25 = .ok (.aload_n 0, 1) := by decide +kernel
theorem d_MK_add_26 : decode b_MK_add 26 = .ok (.invokevirtual 143, 3) := by decide +kernel
theorem d_MK_add_29 : decode b_MK_add 29 = .ok (.aload_n 0, 1) := by decide +kernel
theorem d_MK_add_30 : decode b_MK_add 30 = .ok (.getfield 32, 3) := by decide +kernel
theorem d_MK_add_33 : decode b_MK_add 33 = .ok (.getfield 52, 3) := by decide +kernel
theorem d_MK_add_36 : decode b_MK_add 36 = .ok (.bipush 8, 2) := by decide +kernel
theorem d_MK_add_38 : decode b_MK_add 38 = .ok (.if_icmp .lt 13, 3) := by decide +kernel
theorem d_MK_add_41 : decode b_MK_add 41 = .ok (.new 56, 3) := by decide +kernel
theorem d_MK_add_44 : decode b_MK_add 44 = .ok (.dup, 1) := by decide +kernel
theorem d_MK_add_45 : decode b_MK_add 45 = .ok (.ldc 58, 2) := by decide +kernel
theorem d_MK_add_47 : decode b_MK_add 47 = .ok (.invokespecial 60, 3) := by decide +kernel
theorem d_MK_add_50 : decode b_MK_add 50 = .ok (.athrow, 1) := by decide +kernel
theorem d_MK_add_51 : decode b_MK_add 51 = .ok (.aload_n 0, 1) := by decide +kernel
theorem d_MK_add_52 : decode b_MK_add 52 = .ok (.getfield 48, 3) := by decide +kernel
theorem d_MK_add_55 : decode b_MK_add 55 = .ok (.iload_n 1, 1) := by decide +kernel
theorem d_MK_add_56 : decode b_MK_add 56 = .ok (.invokevirtual 155, 3) := by decide +kernel
theorem d_MK_add_59 : decode b_MK_add 59 = .ok (.ifCond .ne 5, 3) := by decide +kernel
theorem d_MK_add_62 : decode b_MK_add 62 = .ok (.iconst (-1), 1) := by decide +kernel
theorem d_MK_add_63 : decode b_MK_add 63 = .ok (.ireturn, 1) := by decide +kernel
theorem d_MK_add_64 : decode b_MK_add 64 = .ok (.aload_n 0, 1) := by decide +kernel
theorem d_MK_add_65 : decode b_MK_add 65 = .ok (.getfield 32, 3) := by decide +kernel
theorem d_MK_add_68 : decode b_MK_add 68 = .ok (.iload_n 1, 1) := by decide +kernel
theorem d_MK_add_69 : decode b_MK_add 69 = .ok (.invokevirtual 159, 3) := by decide +kernel
theorem d_MK_add_72 : decode b_MK_add 72 = .ok (.aload_n 0, 1) := by decide +kernel
theorem d_MK_add_73 : decode b_MK_add 73 = .ok (.getfield 32, 3) := by decide +kernel
theorem d_MK_add_76 : decode b_MK_add 76 = .ok (.getfield 52, 3) := by decide +kernel
theorem d_MK_add_79 : decode b_MK_add 79 = .ok (.iconst 1, 1) := by decide +kernel
theorem d_MK_add_80 : decode b_MK_add 80 = .ok (.isub, 1) := by decide +kernel
theorem d_MK_add_81 : decode b_MK_add 81 = .ok (.ireturn, 1) := by decide +kernel
theorem d_Board_allDoors_0 : decode b_Board_allDoors 0 = .ok (.iconst 1, 1) := by decide +kernel
theorem d_Board_allDoors_1 : decode b_Board_allDoors 1 = .ok (.aload_n 0, 1) := by decide +kernel
theorem d_Board_allDoors_2 : decode b_Board_allDoors 2 = .ok (.getfield 33, 3) := by decide +kernel
theorem d_Board_allDoors_5 : decode b_Board_allDoors 5 = .ok (.ishl, 1) := by decide +kernel
theorem d_Board_allDoors_6 : decode b_Board_allDoors 6 = .ok (.iconst 1, 1) := by decide +kernel
theorem d_Board_allDoors_7 : decode b_Board_allDoors 7 = .ok (.isub, 1) := by decide +kernel
theorem d_Board_allDoors_8 : decode b_Board_allDoors 8 = .ok (.ireturn, 1) := by decide +kernel
theorem d_Rows_cutLeast_0 : decode b_Rows_cutLeast 0 = .ok (.aload_n 0, 1) := by decide +kernel
theorem d_Rows_cutLeast_1 : decode b_Rows_cutLeast 1 = .ok (.iload_n 1, 1) := by decide +kernel
theorem d_Rows_cutLeast_2 : decode b_Rows_cutLeast 2 = .ok (.invokevirtual 24, 3) := by decide +kernel
theorem d_Rows_cutLeast_5 : decode b_Rows_cutLeast 5 = .ok (.aload_n 0, 1) := by decide +kernel
theorem d_Rows_cutLeast_6 : decode b_Rows_cutLeast 6 = .ok (.getfield 20, 3) := by decide +kernel
theorem d_Rows_cutLeast_9 : decode b_Rows_cutLeast 9 = .ok (.getfield 47, 3) := by decide +kernel
theorem d_Rows_cutLeast_12 : decode b_Rows_cutLeast 12 = .ok (.aload_n 0, 1) := by decide +kernel
theorem d_Rows_cutLeast_13 : decode b_Rows_cutLeast 13 = .ok (.getfield 20, 3) := by decide +kernel
theorem d_Rows_cutLeast_16 : decode b_Rows_cutLeast 16 = .ok (.getfield 50, 3) := by decide +kernel
theorem d_Rows_cutLeast_19 : decode b_Rows_cutLeast 19 = .ok (.aaload, 1) := by decide +kernel
theorem d_Rows_cutLeast_20 : decode b_Rows_cutLeast 20 = .ok (.astore_n 2, 1) := by decide +kernel
theorem d_Rows_cutLeast_21 : decode b_Rows_cutLeast 21 = .ok (.aload_n 0, 1) := by decide +kernel
theorem d_Rows_cutLeast_22 : decode b_Rows_cutLeast 22 = .ok (.getfield 20, 3) := by decide +kernel
theorem d_Rows_cutLeast_25 : decode b_Rows_cutLeast 25 = .ok (.invokevirtual 53, 3) := by decide +kernel
theorem d_Rows_cutLeast_28 : decode b_Rows_cutLeast 28 = .ok (.istore_n 3, 1) := by decide +kernel
theorem d_Rows_cutLeast_29 : decode b_Rows_cutLeast 29 = .ok (.lconst 0, 1) := by decide +kernel
theorem d_Rows_cutLeast_30 : decode b_Rows_cutLeast 30 = .ok (.lstore 4, 2) := by decide +kernel
theorem d_Rows_cutLeast_32 : decode b_Rows_cutLeast 32 = .ok (.iconst 0, 1) := by decide +kernel
theorem d_Rows_cutLeast_33 : decode b_Rows_cutLeast 33 = .ok (.istore 6, 2) := by decide +kernel
theorem d_Rows_cutLeast_35 : decode b_Rows_cutLeast 35 = .ok (.iload 6, 2) := by decide +kernel
theorem d_Rows_cutLeast_37 : decode b_Rows_cutLeast 37 = .ok (.aload_n 0, 1) := by decide +kernel
theorem d_Rows_cutLeast_38 : decode b_Rows_cutLeast 38 = .ok (.getfield 16, 3) := by decide +kernel
theorem d_Rows_cutLeast_41 : decode b_Rows_cutLeast 41 = .ok (.getfield 57, 3) := by decide +kernel
theorem d_Rows_cutLeast_44 : decode b_Rows_cutLeast 44 = .ok (.if_icmp .ge 80, 3) := by decide +kernel
theorem d_Rows_cutLeast_47 : decode b_Rows_cutLeast 47 = .ok (.iload 6, 2) := by decide +kernel
theorem d_Rows_cutLeast_49 : decode b_Rows_cutLeast 49 = .ok (.ifCond .le 12, 3) := by decide +kernel
theorem d_Rows_cutLeast_52 : decode b_Rows_cutLeast 52 = .ok (.aload_n 2, 1) := by decide +kernel
theorem d_Rows_cutLeast_53 : decode b_Rows_cutLeast 53 = .ok (.iload 6, 2) := by decide +kernel
theorem d_Rows_cutLeast_55 : decode b_Rows_cutLeast 55 = .ok (.iconst 1, 1) := by decide +kernel
theorem d_Rows_cutLeast_56 : decode b_Rows_cutLeast 56 = .ok (.isub, 1) := by decide +kernel
theorem d_Rows_cutLeast_57 : decode b_Rows_cutLeast 57 = .ok (.iaload, 1) := by decide +kernel
theorem d_Rows_cutLeast_58 : decode b_Rows_cutLeast 58 = .ok (.goto 4, 3) := by decide +kernel
theorem d_Rows_cutLeast_61 : decode b_Rows_cutLeast 61 = .ok (.iconst (-1), 1) := by decide +kernel
theorem d_Rows_cutLeast_62 : decode b_Rows_cutLeast 62 = .ok (.istore 7, 2) := by decide +kernel
theorem d_Rows_cutLeast_64 : decode b_Rows_cutLeast 64 = .ok (.aload_n 0, 1) := by decide +kernel
theorem d_Rows_cutLeast_65 : decode b_Rows_cutLeast 65 = .ok (.iload 6, 2) := by decide +kernel
theorem d_Rows_cutLeast_67 : decode b_Rows_cutLeast 67 = .ok (.iload 7, 2) := by decide +kernel
theorem d_Rows_cutLeast_69 : decode b_Rows_cutLeast 69 = .ok (.iload_n 3, 1) := by decide +kernel
theorem d_Rows_cutLeast_70 : decode b_Rows_cutLeast 70 = .ok (.lload 4, 2) := by decide +kernel
theorem d_Rows_cutLeast_72 : decode b_Rows_cutLeast 72 = .ok (.iload_n 1, 1) := by decide +kernel
theorem d_Rows_cutLeast_73 : decode b_Rows_cutLeast 73 = .ok (.invokevirtual 60, 3) := by decide +kernel
theorem d_Rows_cutLeast_76 : decode b_Rows_cutLeast 76 = .ok (.istore 8, 2) := by decide +kernel
theorem d_Rows_cutLeast_78 : decode b_Rows_cutLeast 78 = .ok (.iload 8, 2) := by decide +kernel
theorem d_Rows_cutLeast_80 : decode b_Rows_cutLeast 80 = .ok (.iconst (-1), 1) := by decide +kernel
theorem d_Rows_cutLeast_81 : decode b_Rows_cutLeast 81 = .ok (.if_icmp .ne 5, 3) := by decide +kernel
theorem d_Rows_cutLeast_84 : decode b_Rows_cutLeast 84 = .ok (.iconst 0, 1) := by decide +kernel
theorem d_Rows_cutLeast_85 : decode b_Rows_cutLeast 85 = .ok (.ireturn, 1) := by decide +kernel
theorem d_Rows_cutLeast_86 : decode b_Rows_cutLeast 86 = .ok (.aload_n 2, 1) := by decide +kernel
theorem d_Rows_cutLeast_87 : decode b_Rows_cutLeast 87 = .ok (.iload 6, 2) := by decide +kernel
theorem d_Rows_cutLeast_89 : decode b_Rows_cutLeast 89 = .ok (.iload 8, 2) := by decide +kernel
theorem d_Rows_cutLeast_91 : decode b_Rows_cutLeast 91 = .ok (.iastore, 1) := by decide +kernel
theorem d_Rows_cutLeast_92 : decode b_Rows_cutLeast 92 = .ok (.iload_n 3, 1) := by decide +kernel
theorem d_Rows_cutLeast_93 : decode b_Rows_cutLeast 93 = .ok (.aload_n 0, 1) := by decide +kernel
theorem d_Rows_cutLeast_94 : decode b_Rows_cutLeast 94 = .ok (.getfield 20, 3) := by decide +kernel
theorem d_Rows_cutLeast_97 : decode b_Rows_cutLeast 97 = .ok (.iload 6, 2) := by decide +kernel
theorem d_Rows_cutLeast_99 : decode b_Rows_cutLeast 99 = .ok (.iload 8, 2) := by decide +kernel
theorem d_Rows_cutLeast_101 : decode b_Rows_cutLeast 101 = .ok (.invokevirtual 34, 3) := by decide +kernel
theorem d_Rows_cutLeast_104 : decode b_Rows_cutLeast 104 = .ok (.iand, 1) := by decide +kernel
theorem d_Rows_cutLeast_105 : decode b_Rows_cutLeast 105 = .ok (.istore_n 3, 1) := by decide +kernel
theorem d_Rows_cutLeast_106 : decode b_Rows_cutLeast 106 = .ok (.lload 4, 2) := by decide +kernel
theorem d_Rows_cutLeast_108 : decode b_Rows_cutLeast 108 = .ok (.iload 6, 2) := by decide +kernel
theorem d_Rows_cutLeast_110 : decode b_Rows_cutLeast 110 = .ok (.iload 8, 2) := by decide +kernel
theorem d_Rows_cutLeast_112 : decode b_Rows_cutLeast 112 = .ok (.invokestatic 64, 3) := by decide +kernel
theorem d_Rows_cutLeast_115 : decode b_Rows_cutLeast 115 = .ok (.lor, 1) := by decide +kernel
theorem d_Rows_cutLeast_116 : decode b_Rows_cutLeast 116 = .ok (.lstore 4, 2) := by decide +kernel
theorem d_Rows_cutLeast_118 : decode b_Rows_cutLeast 118 = .ok (.iinc 6 1, 3) := by decide +kernel
theorem d_Rows_cutLeast_121 : decode b_Rows_cutLeast 121 = .ok (.goto (-86), 3) := by decide +kernel
theorem d_Rows_cutLeast_124 : decode b_Rows_cutLeast 124 = .ok (.iconst 1, 1) := by decide +kernel
theorem d_Rows_cutLeast_125 : decode b_Rows_cutLeast 125 = .ok (.ireturn, 1) := by decide +kernel
theorem d_Rows_leastDepth_0 : decode b_Rows_leastDepth 0 = .ok (.iconst 0, 1) := by decide +kernel
theorem d_Rows_leastDepth_1 : decode b_Rows_leastDepth 1 = .ok (.istore 7, 2) := by decide +kernel
theorem d_Rows_leastDepth_3 : decode b_Rows_leastDepth 3 = .ok (.iload 7, 2) := by decide +kernel
theorem d_Rows_leastDepth_5 : decode b_Rows_leastDepth 5 = .ok (.aload_n 0, 1) := by decide +kernel
theorem d_Rows_leastDepth_6 : decode b_Rows_leastDepth 6 = .ok (.getfield 16, 3) := by decide +kernel
theorem d_Rows_leastDepth_9 : decode b_Rows_leastDepth 9 = .ok (.getfield 28, 3) := by decide +kernel
theorem d_Rows_leastDepth_12 : decode b_Rows_leastDepth 12 = .ok (.if_icmp .ge 83, 3) := by decide +kernel
theorem d_Rows_leastDepth_15 : decode b_Rows_leastDepth 15 = .ok (.iload_n 2, 1) := by decide +kernel
theorem d_Rows_leastDepth_16 : decode b_Rows_leastDepth 16 = .ok (.iconst (-1), 1) := by decide +kernel
theorem d_Rows_leastDepth_17 : decode b_Rows_leastDepth 17 = .ok (.if_icmp .eq 16, 3) := by decide +kernel
theorem d_Rows_leastDepth_20 : decode b_Rows_leastDepth 20 = .ok (.aload_n 0, 1) := by decide +kernel
theorem d_Rows_leastDepth_21 : decode b_Rows_leastDepth 21 = .ok (.getfield 16, 3) := by decide +kernel
theorem d_Rows_leastDepth_24 : decode b_Rows_leastDepth 24 = .ok (.iload_n 2, 1) := by decide +kernel
theorem d_Rows_leastDepth_25 : decode b_Rows_leastDepth 25 = .ok (.iload 7, 2) := by decide +kernel
theorem d_Rows_leastDepth_27 : decode b_Rows_leastDepth 27 = .ok (.invokevirtual 68, 3) := by decide +kernel
theorem d_Rows_leastDepth_30 : decode b_Rows_leastDepth 30 = .ok (.ifCond .eq 59, 3) := by decide +kernel
theorem d_Rows_leastDepth_33 : decode b_Rows_leastDepth 33 = .ok (.iload_n 3, 1) := by decide +kernel
theorem d_Rows_leastDepth_34 : decode b_Rows_leastDepth 34 = .ok (.aload_n 0, 1) := by decide +kernel
theorem d_Rows_leastDepth_35 : decode b_Rows_leastDepth 35 = .ok (.getfield 20, 3) := by decide +kernel
theorem d_Rows_leastDepth_38 : decode b_Rows_leastDepth 38 = .ok (.iload_n 1, 1) := by decide +kernel
theorem d_Rows_leastDepth_39 : decode b_Rows_leastDepth 39 = .ok (.iload 7, 2) := by decide +kernel
theorem d_Rows_leastDepth_41 : decode b_Rows_leastDepth 41 = .ok (.invokevirtual 34, 3) := by decide +kernel
theorem d_Rows_leastDepth_44 : decode b_Rows_leastDepth 44 = .ok (.iand, 1) := by decide +kernel
theorem d_Rows_leastDepth_45 : decode b_Rows_leastDepth 45 = .ok (.istore 8, 2) := by decide +kernel
theorem d_Rows_leastDepth_47 : decode b_Rows_leastDepth 47 = .ok (.aload_n 0, 1) := by decide +kernel
theorem d_Rows_leastDepth_48 : decode b_Rows_leastDepth 48 = .ok (.getfield 20, 3) := by decide +kernel
theorem d_Rows_leastDepth_51 : decode b_Rows_leastDepth 51 = .ok (.lload 4, 2) := by decide +kernel
theorem d_Rows_leastDepth_53 : decode b_Rows_leastDepth 53 = .ok (.iload_n 1, 1) := by decide +kernel
theorem d_Rows_leastDepth_54 : decode b_Rows_leastDepth 54 = .ok (.iload 7, 2) := by decide +kernel
theorem d_Rows_leastDepth_56 : decode b_Rows_leastDepth 56 = .ok (.invokestatic 64, 3) := by decide +kernel
theorem d_Rows_leastDepth_59 : decode b_Rows_leastDepth 59 = .ok (.lor, 1) := by decide +kernel
theorem d_Rows_leastDepth_60 : decode b_Rows_leastDepth 60 = .ok (.iload 6, 2) := by decide +kernel
theorem d_Rows_leastDepth_62 : decode b_Rows_leastDepth 62 = .ok (.invokevirtual 43, 3) := by decide +kernel
theorem d_Rows_leastDepth_65 : decode b_Rows_leastDepth 65 = .ok (.istore 9, 2) := by decide +kernel
theorem d_Rows_leastDepth_67 : decode b_Rows_leastDepth 67 = .ok (.aload_n 0, 1) := by decide +kernel
theorem d_Rows_leastDepth_68 : decode b_Rows_leastDepth 68 = .ok (.getfield 11, 3) := by decide +kernel
theorem d_Rows_leastDepth_71 : decode b_Rows_leastDepth 71 = .ok (.iload_n 1, 1) := by decide +kernel
theorem d_Rows_leastDepth_72 : decode b_Rows_leastDepth 72 = .ok (.aaload, 1) := by decide +kernel
theorem d_Rows_leastDepth_73 : decode b_Rows_leastDepth 73 = .ok (.iload 7, 2) := by decide +kernel
theorem d_Rows_leastDepth_75 : decode b_Rows_leastDepth 75 = .ok (.iload 8, 2) := by decide +kernel
theorem d_Rows_leastDepth_77 : decode b_Rows_leastDepth 77 = .ok (.invokestatic 40, 3) := by decide +kernel
theorem d_Rows_leastDepth_80 : decode b_Rows_leastDepth 80 = .ok (.iaload, 1) := by decide +kernel
theorem d_Rows_leastDepth_81 : decode b_Rows_leastDepth 81 = .ok (.iload 9, 2) := by decide +kernel
theorem d_Rows_leastDepth_83 : decode b_Rows_leastDepth 83 = .ok (.if_icmp .le 6, 3) := by decide +kernel
theorem d_Rows_leastDepth_86 : decode b_Rows_leastDepth 86 = .ok (.iload 7, 2) := by decide +kernel
theorem d_Rows_leastDepth_88 : decode b_Rows_leastDepth 88 = .ok (.ireturn, 1) := by decide +kernel
theorem d_Rows_leastDepth_89 : decode b_Rows_leastDepth 89 = .ok (.iinc 7 1, 3) := by decide +kernel
theorem d_Rows_leastDepth_92 : decode b_Rows_leastDepth 92 = .ok (.goto (-89), 3) := by decide +kernel
theorem d_Rows_leastDepth_95 : decode b_Rows_leastDepth 95 = .ok (.iconst (-1), 1) := by decide +kernel
theorem d_Rows_leastDepth_96 : decode b_Rows_leastDepth 96 = .ok (.ireturn, 1) := by decide +kernel
theorem d_Board_enter_0 : decode b_Board_enter 0 = .ok (.aload_n 0, 1) := by decide +kernel
theorem d_Board_enter_1 : decode b_Board_enter 1 = .ok (.getfield 45, 3) := by decide +kernel
theorem d_Board_enter_4 : decode b_Board_enter 4 = .ok (.istore_n 2, 1) := by decide +kernel
theorem d_Board_enter_5 : decode b_Board_enter 5 = .ok (.aload_n 0, 1) := by decide +kernel
theorem d_Board_enter_6 : decode b_Board_enter 6 = .ok (.getfield 9, 3) := by decide +kernel
theorem d_Board_enter_9 : decode b_Board_enter 9 = .ok (.iload_n 2, 1) := by decide +kernel
theorem d_Board_enter_10 : decode b_Board_enter 10 = .ok (.iload_n 1, 1) := by decide +kernel
theorem d_Board_enter_11 : decode b_Board_enter 11 = .ok (.iastore, 1) := by decide +kernel
theorem d_Board_enter_12 : decode b_Board_enter 12 = .ok (.aload_n 0, 1) := by decide +kernel
theorem d_Board_enter_13 : decode b_Board_enter 13 = .ok (.getfield 20, 3) := by decide +kernel
theorem d_Board_enter_16 : decode b_Board_enter 16 = .ok (.iload_n 2, 1) := by decide +kernel
theorem d_Board_enter_17 : decode b_Board_enter 17 = .ok (.aload_n 0, 1) := by decide +kernel
theorem d_Board_enter_18 : decode b_Board_enter 18 = .ok (.iload_n 2, 1) := by decide +kernel
theorem d_Board_enter_19 : decode b_Board_enter 19 = .ok (.invokevirtual 56, 3) := by decide +kernel
theorem d_Board_enter_22 : decode b_Board_enter 22 = .ok (.lastore, 1) := by decide +kernel
theorem d_Board_enter_23 : decode b_Board_enter 23 = .ok (.iconst 0, 1) := by decide +kernel
theorem d_Board_enter_24 : decode b_Board_enter 24 = .ok (.istore_n 3, 1) := by decide +kernel
theorem d_Board_enter_25 : decode b_Board_enter 25 = .ok (.iload_n 3, 1) := by decide +kernel
theorem d_Board_enter_26 : decode b_Board_enter 26 = .ok (.aload_n 0, 1) := by decide +kernel
theorem d_Board_enter_27 : decode b_Board_enter 27 = .ok (.getfield 33, 3) := by decide +kernel
theorem d_Board_enter_30 : decode b_Board_enter 30 = .ok (.if_icmp .ge 27, 3) := by decide +kernel
theorem d_Board_enter_33 : decode b_Board_enter 33 = .ok (.aload_n 0, 1) := by decide +kernel
theorem d_Board_enter_34 : decode b_Board_enter 34 = .ok (.getfield 26, 3) := by decide +kernel
theorem d_Board_enter_37 : decode b_Board_enter 37 = .ok (.iload_n 2, 1) := by decide +kernel
theorem d_Board_enter_38 : decode b_Board_enter 38 = .ok (.iconst 1, 1) := by decide +kernel
theorem d_Board_enter_39 : decode b_Board_enter 39 = .ok (.iadd, 1) := by decide +kernel
theorem d_Board_enter_40 : decode b_Board_enter 40 = .ok (.aaload, 1) := by decide +kernel
theorem d_Board_enter_41 : decode b_Board_enter 41 = .ok (.iload_n 3, 1) := by decide +kernel
theorem d_Board_enter_42 : decode b_Board_enter 42 = .ok (.aload_n 0, 1) := by decide +kernel
theorem d_Board_enter_43 : decode b_Board_enter 43 = .ok (.getfield 26, 3) := by decide +kernel
theorem d_Board_enter_46 : decode b_Board_enter 46 = .ok (.iload_n 2, 1) := by decide +kernel
theorem d_Board_enter_47 : decode b_Board_enter 47 = .ok (.aaload, 1) := by decide +kernel
theorem d_Board_enter_48 : decode b_Board_enter 48 = .ok (.iload_n 3, 1) := by decide +kernel
theorem d_Board_enter_49 : decode b_Board_enter 49 = .ok (.laload, 1) := by decide +kernel
theorem d_Board_enter_50 : decode b_Board_enter 50 = .ok (.lastore, 1) := by decide +kernel
theorem d_Board_enter_51 : decode b_Board_enter 51 = .ok (.iinc 3 1, 3) := by decide +kernel
theorem d_Board_enter_54 : decode b_Board_enter 54 = .ok (.goto (-29), 3) := by decide +kernel
theorem d_Board_enter_57 : decode b_Board_enter 57 = .ok (.aload_n 0, 1) := by decide +kernel
theorem d_Board_enter_58 : decode b_Board_enter 58 = .ok (.dup, 1) := by decide +kernel
theorem d_Board_enter_59 : decode b_Board_enter 59 = .ok (.getfield 45, 3) := by decide +kernel
theorem d_Board_enter_62 : decode b_Board_enter 62 = .ok (.iconst 1, 1) := by decide +kernel
theorem d_Board_enter_63 : decode b_Board_enter 63 = .ok (.iadd, 1) := by decide +kernel
theorem d_Board_enter_64 : decode b_Board_enter 64 = .ok (.putfield 45, 3) := by decide +kernel
theorem d_Board_enter_67 : decode b_Board_enter 67 = .ok (.return_, 1) := by decide +kernel
theorem d_MK_heirs_0 : decode b_MK_heirs 0 = .ok (.aload_n 0, 1) := by decide +kernel
theorem d_MK_heirs_1 : decode b_MK_heirs 1 = .ok (.iload_n 1, 1) := by decide +kernel
theorem d_MK_heirs_2 : decode b_MK_heirs 2 = .ok (.invokevirtual 72, 3) := by decide +kernel
theorem d_MK_heirs_5 : decode b_MK_heirs 5 = .ok (.aload_n 0, 1) := by decide +kernel
theorem d_MK_heirs_6 : decode b_MK_heirs 6 = .ok (.invokevirtual 143, 3) := by decide +kernel
theorem d_MK_heirs_9 : decode b_MK_heirs 9 = .ok (.aload_n 0, 1) := by decide +kernel
theorem d_MK_heirs_10 : decode b_MK_heirs 10 = .ok (.getfield 32, 3) := by decide +kernel
theorem d_MK_heirs_13 : decode b_MK_heirs 13 = .ok (.iload_n 1, 1) := by decide +kernel
theorem d_MK_heirs_14 : decode b_MK_heirs 14 = .ok (.invokevirtual 131, 3) := by decide +kernel
theorem d_MK_heirs_17 : decode b_MK_heirs 17 = .ok (.istore_n 2, 1) := by decide +kernel
theorem d_MK_heirs_18 : decode b_MK_heirs 18 = .ok (.iconst 0, 1) := by decide +kernel
theorem d_MK_heirs_19 : decode b_MK_heirs 19 = .ok (.istore_n 3, 1) := by decide +kernel
theorem d_MK_heirs_20 : decode b_MK_heirs 20 = .ok (.iconst 0, 1) := by decide +kernel
theorem d_MK_heirs_21 : decode b_MK_heirs 21 = .ok (.istore 4, 2) := by decide +kernel
theorem d_MK_heirs_23 : decode b_MK_heirs 23 = .ok (.iload 4, 2) := by decide +kernel
theorem d_MK_heirs_25 : decode b_MK_heirs 25 = .ok (.aload_n 0, 1) := by decide +kernel
theorem d_MK_heirs_26 : decode b_MK_heirs 26 = .ok (.getfield 32, 3) := by decide +kernel
theorem d_MK_heirs_29 : decode b_MK_heirs 29 = .ok (.getfield 52, 3) := by decide +kernel
theorem d_MK_heirs_32 : decode b_MK_heirs 32 = .ok (.if_icmp .ge 38, 3) := by decide +kernel
theorem d_MK_heirs_35 : decode b_MK_heirs 35 = .ok (.iload 4, 2) := by decide +kernel
theorem d_MK_heirs_37 : decode b_MK_heirs 37 = .ok (.iload_n 1, 1) := by decide +kernel
theorem d_MK_heirs_38 : decode b_MK_heirs 38 = .ok (.if_icmp .eq 26, 3) := by decide +kernel
theorem d_MK_heirs_41 : decode b_MK_heirs 41 = .ok (.iload_n 2, 1) := by decide +kernel
theorem d_MK_heirs_42 : decode b_MK_heirs 42 = .ok (.aload_n 0, 1) := by decide +kernel
theorem d_MK_heirs_43 : decode b_MK_heirs 43 = .ok (.getfield 32, 3) := by decide +kernel
theorem d_MK_heirs_46 : decode b_MK_heirs 46 = .ok (.iload 4, 2) := by decide +kernel
theorem d_MK_heirs_48 : decode b_MK_heirs 48 = .ok (.invokevirtual 131, 3) := by decide +kernel
theorem d_MK_heirs_51 : decode b_MK_heirs 51 = .ok (.iconst (-1), 1) := by decide +kernel
theorem d_MK_heirs_52 : decode b_MK_heirs 52 = .ok (.ixor, 1) := by decide +kernel
theorem d_MK_heirs_53 : decode b_MK_heirs 53 = .ok (.iand, 1) := by decide +kernel
theorem d_MK_heirs_54 : decode b_MK_heirs 54 = .ok (.ifCond .ne 10, 3) := by decide +kernel
theorem d_MK_heirs_57 : decode b_MK_heirs 57 = .ok (.iload_n 3, 1) := by decide +kernel
theorem d_MK_heirs_58 : decode b_MK_heirs 58 = .ok (.iconst 1, 1) := by decide +kernel
theorem d_MK_heirs_59 : decode b_MK_heirs 59 = .ok (.iload 4, 2) := by decide +kernel
theorem d_MK_heirs_61 : decode b_MK_heirs 61 = .ok (.ishl, 1) := by decide +kernel
theorem d_MK_heirs_62 : decode b_MK_heirs 62 = .ok (.ior, 1) := by decide +kernel
theorem d_MK_heirs_63 : decode b_MK_heirs 63 = .ok (.istore_n 3, 1) := by decide +kernel
theorem d_MK_heirs_64 : decode b_MK_heirs 64 = .ok (.iinc 4 1, 3) := by decide +kernel
theorem d_MK_heirs_67 : decode b_MK_heirs 67 = .ok (.goto (-44), 3) := by decide +kernel
theorem d_MK_heirs_70 : decode b_MK_heirs 70 = .ok (.iload_n 3, 1) := by decide +kernel
theorem d_MK_heirs_71 : decode b_MK_heirs 71 = .ok (.ireturn, 1) := by decide +kernel
end
section
theorem d_RM_init_0 : decode b_RM_init 0 = .ok (.aload_n 0, 1) := by decide +kernel
theorem d_RM_init_1 : decode b_RM_init 1 = .ok (.invokespecial 1, 3) := by decide +kernel
theorem d_RM_init_4 : decode b_RM_init 4 = .ok (.aload_n 0, 1) := by decide +kernel
theorem d_RM_init_5 : decode b_RM_init 5 = .ok (.bipush 48, 2) := by decide +kernel
theorem d_RM_init_7 : decode b_RM_init 7 = .ok (.newarray .boolean, 2) := by decide +kernel
theorem d_RM_init_9 : decode b_RM_init 9 = .ok (.putfield 7, 3) := by decide +kernel
theorem d_RM_init_12 : decode b_RM_init 12 = .ok (.aload_n 0, 1) := by decide +kernel
theorem d_RM_init_13 : decode b_RM_init 13 = .ok (.bipush 7, 2) := by decide +kernel
theorem d_RM_init_15 : decode b_RM_init 15 = .ok (.putfield 13, 3) := by decide +kernel
theorem d_RM_init_18 : decode b_RM_init 18 = .ok (.aload_n 0, 1) := by decide +kernel
theorem d_RM_init_19 : decode b_RM_init 19 = .ok (.bipush 8, 2) := by decide +kernel
theorem d_RM_init_21 : decode b_RM_init 21 = .ok (.putfield 17, 3) := by decide +kernel
theorem d_RM_init_24 : decode b_RM_init 24 = .ok (.aload_n 0, 1) := by decide +kernel
theorem d_RM_init_25 : decode b_RM_init 25 = .ok (.bipush 64, 2) := by decide +kernel
theorem d_RM_init_27 : decode b_RM_init 27 = .ok (.newarray .boolean, 2) := by decide +kernel
theorem d_RM_init_29 : decode b_RM_init 29 = .ok (.putfield 20, 3) := by decide +kernel
theorem d_RM_init_32 : decode b_RM_init 32 = .ok (.aload_n 0, 1) := by decide +kernel
theorem d_RM_init_33 : decode b_RM_init 33 = .ok (.bipush 48, 2) := by decide +kernel
theorem d_RM_init_35 : decode b_RM_init 35 = .ok (.newarray .int, 2) := by decide +kernel
theorem d_RM_init_37 : decode b_RM_init 37 = .ok (.putfield 23, 3) := by decide +kernel
theorem d_RM_init_40 : decode b_RM_init 40 = .ok (.aload_n 0, 1) := by decide +kernel
theorem d_RM_init_41 : decode b_RM_init 41 = .ok (.bipush 6, 2) := by decide +kernel
theorem d_RM_init_43 : decode b_RM_init 43 = .ok (.newarray .int, 2) := by decide +kernel
theorem d_RM_init_45 : decode b_RM_init 45 = .ok (.putfield 27, 3) := by decide +kernel
theorem d_RM_init_48 : decode b_RM_init 48 = .ok (.aload_n 0, 1) := by decide +kernel
theorem d_RM_init_49 : decode b_RM_init 49 = .ok (.iload_n 1, 1) := by decide +kernel
theorem d_RM_init_50 : decode b_RM_init 50 = .ok (.iconst 2, 1) := by decide +kernel
theorem d_RM_init_51 : decode b_RM_init 51 = .ok (.if_icmp .ge 7, 3) := by decide +kernel
theorem d_RM_init_54 : decode b_RM_init 54 = .ok (.iconst 2, 1) := by decide +kernel
theorem d_RM_init_55 : decode b_RM_init 55 = .ok (.goto 15, 3) := by decide +kernel
theorem d_RM_init_58 : decode b_RM_init 58 = .ok (.iload_n 1, 1) := by decide +kernel
theorem d_RM_init_59 : decode b_RM_init 59 = .ok (.bipush 6, 2) := by decide +kernel
theorem d_RM_init_61 : decode b_RM_init 61 = .ok (.if_icmp .le 8, 3) := by decide +kernel
theorem d_RM_init_64 : decode b_RM_init 64 = .ok (.bipush 6, 2) := by decide +kernel
theorem d_RM_init_66 : decode b_RM_init 66 = .ok (.goto 4, 3) := by decide +kernel
theorem d_RM_init_69 : decode b_RM_init 69 = .ok (.iload_n 1, 1) := by decide +kernel
theorem d_RM_init_70 : decode b_RM_init 70 = .ok (.putfield 30, 3) := by decide +kernel
theorem d_RM_init_73 : decode b_RM_init 73 = .ok (.aload_n 0, 1) := by decide +kernel
theorem d_RM_init_74 : decode b_RM_init 74 = .ok (.iload_n 2, 1) := by decide +kernel
theorem d_RM_init_75 : decode b_RM_init 75 = .ok (.iconst 2, 1) := by decide +kernel
theorem d_RM_init_76 : decode b_RM_init 76 = .ok (.if_icmp .ge 7, 3) := by decide +kernel
theorem d_RM_init_79 : decode b_RM_init 79 = .ok (.iconst 2, 1) := by decide +kernel
theorem d_RM_init_80 : decode b_RM_init 80 = .ok (.goto 15, 3) := by decide +kernel
theorem d_RM_init_83 : decode b_RM_init 83 = .ok (.iload_n 2, 1) := by decide +kernel
theorem d_RM_init_84 : decode b_RM_init 84 = .ok (.bipush 8, 2) := by decide +kernel
theorem d_RM_init_86 : decode b_RM_init 86 = .ok (.if_icmp .le 8, 3) := by decide +kernel
theorem d_RM_init_89 : decode b_RM_init 89 = .ok (.bipush 8, 2) := by decide +kernel
theorem d_RM_init_91 : decode b_RM_init 91 = .ok (.goto 4, 3) := by decide +kernel
theorem d_RM_init_94 : decode b_RM_init 94 = .ok (.iload_n 2, 1) := by decide +kernel
theorem d_RM_init_95 : decode b_RM_init 95 = .ok (.putfield 33, 3) := by decide +kernel
theorem d_RM_init_98 : decode b_RM_init 98 = .ok (.return_, 1) := by decide +kernel
theorem d_RM_thrown_0 : decode b_RM_thrown 0 = .ok (.aload_n 0, 1) := by decide +kernel
theorem d_RM_thrown_1 : decode b_RM_thrown 1 = .ok (.getfield 36, 3) := by decide +kernel
theorem d_RM_thrown_4 : decode b_RM_thrown 4 = .ok (.ireturn, 1) := by decide +kernel
theorem d_RM_key_0 : decode b_RM_key 0 = .ok (.aload_n 0, 1) := by decide +kernel
theorem d_RM_key_1 : decode b_RM_key 1 = .ok (.aload_n 0, 1) := by decide +kernel
theorem d_RM_key_2 : decode b_RM_key 2 = .ok (.getfield 39, 3) := by decide +kernel
theorem d_RM_key_5 : decode b_RM_key 5 = .ok (.bipush 8, 2) := by decide +kernel
theorem d_RM_key_7 : decode b_RM_key 7 = .ok (.if_icmp .ne 7, 3) := by decide +kernel
theorem d_RM_key_10 : decode b_RM_key 10 = .ok (.iconst 1, 1) := by decide +kernel
theorem d_RM_key_11 : decode b_RM_key 11 = .ok (.goto 4, 3) := by decide +kernel
theorem d_RM_key_14 : decode b_RM_key 14 = .ok (.iconst 0, 1) := by decide +kernel
theorem d_RM_key_15 : decode b_RM_key 15 = .ok (.putfield 36, 3) := by decide +kernel
theorem d_RM_key_18 : decode b_RM_key 18 = .ok (.aload_n 0, 1) := by decide +kernel
theorem d_RM_key_19 : decode b_RM_key 19 = .ok (.getfield 36, 3) := by decide +kernel
theorem d_RM_key_22 : decode b_RM_key 22 = .ok (.ifCond .le 5, 3) := by decide +kernel
theorem d_RM_key_25 : decode b_RM_key 25 = .ok (.iconst 0, 1) := by decide +kernel
theorem d_RM_key_26 : decode b_RM_key 26 = .ok (.ireturn, 1) := by decide +kernel
theorem d_RM_key_27 : decode b_RM_key 27 = .ok (.iconst 0, 1) := by decide +kernel
theorem d_RM_key_28 : decode b_RM_key 28 = .ok (.istore_n 1, 1) := by decide +kernel
theorem d_RM_key_29 : decode b_RM_key 29 = .ok (.iload_n 1, 1) := by decide +kernel
theorem d_RM_key_30 : decode b_RM_key 30 = .ok (.bipush 6, 2) := by decide +kernel
theorem d_RM_key_32 : decode b_RM_key 32 = .ok (.if_icmp .ge 24, 3) := by decide +kernel
theorem d_RM_key_35 : decode b_RM_key 35 = .ok (.aload_n 0, 1) := by decide +kernel
theorem d_RM_key_36 : decode b_RM_key 36 = .ok (.getfield 7, 3) := by decide +kernel
theorem d_RM_key_39 : decode b_RM_key 39 = .ok (.bipush 6, 2) := by decide +kernel
theorem d_RM_key_41 : decode b_RM_key 41 = .ok (.aload_n 0, 1) := by decide +kernel
theorem d_RM_key_42 : decode b_RM_key 42 = .ok (.getfield 39, 3) := by decide +kernel
theorem d_RM_key_45 : decode b_RM_key 45 = .ok (.imul, 1) := by decide +kernel
theorem d_RM_key_46 : decode b_RM_key 46 = .ok (.iload_n 1, 1) := by decide +kernel
theorem d_RM_key_47 : decode b_RM_key 47 = .ok (.iadd, 1) := by decide +kernel
theorem d_RM_key_48 : decode b_RM_key 48 = .ok (.iconst 0, 1) := by decide +kernel
theorem d_RM_key_49 : decode b_RM_key 49 = .ok (.bastore, 1) := by decide +kernel
theorem d_RM_key_50 : decode b_RM_key 50 = .ok (.iinc 1 1, 3) := by decide +kernel
theorem d_RM_key_53 : decode b_RM_key 53 = .ok (.goto (-24), 3) := by decide +kernel
theorem d_RM_key_56 : decode b_RM_key 56 = .ok (.aload_n 0, 1) := by decide +kernel
theorem d_RM_key_57 : decode b_RM_key 57 = .ok (.dup, 1) := by decide +kernel
theorem d_RM_key_58 : decode b_RM_key 58 = .ok (.getfield 39, 3) := by decide +kernel
theorem d_RM_key_61 : decode b_RM_key 61 = .ok (.iconst 1, 1) := by decide +kernel
theorem d_RM_key_62 : decode b_RM_key 62 = .ok (.iadd, 1) := by decide +kernel
theorem d_RM_key_63 : decode b_RM_key 63 = .ok (.putfield 39, 3) := by decide +kernel
theorem d_RM_key_66 : decode b_RM_key 66 = .ok (.aload_n 0, 1) := by decide +kernel
theorem d_RM_key_67 : decode b_RM_key 67 = .ok (.iconst 0, 1) := by decide +kernel
theorem d_RM_key_68 : decode b_RM_key 68 = .ok (.putfield 45, 3) := by decide +kernel
theorem d_RM_key_71 : decode b_RM_key 71 = .ok (.aload_n 0, 1) := by decide +kernel
theorem d_RM_key_72 : decode b_RM_key 72 = .ok (.getfield 39, 3) := by decide +kernel
theorem d_RM_key_75 : decode b_RM_key 75 = .ok (.iconst 1, 1) := by decide +kernel
theorem d_RM_key_76 : decode b_RM_key 76 = .ok (.isub, 1) := by decide +kernel
theorem d_RM_key_77 : decode b_RM_key 77 = .ok (.ireturn, 1) := by decide +kernel
theorem d_RM_door_0 : decode b_RM_door 0 = .ok (.aload_n 0, 1) := by decide +kernel
theorem d_RM_door_1 : decode b_RM_door 1 = .ok (.aload_n 0, 1) := by decide +kernel
theorem d_RM_door_2 : decode b_RM_door 2 = .ok (.getfield 42, 3) := by decide +kernel
theorem d_RM_door_5 : decode b_RM_door 5 = .ok (.bipush 6, 2) := by decide +kernel
theorem d_RM_door_7 : decode b_RM_door 7 = .ok (.if_icmp .ne 7, 3) := by decide +kernel
theorem d_RM_door_10 : decode b_RM_door 10 = .ok (.iconst 1, 1) := by decide +kernel
theorem d_RM_door_11 : decode b_RM_door 11 = .ok (.goto 4, 3) := by decide +kernel
theorem d_RM_door_14 : decode b_RM_door 14 = .ok (.iconst 0, 1) := by decide +kernel
theorem d_RM_door_15 : decode b_RM_door 15 = .ok (.putfield 36, 3) := by decide +kernel
theorem d_RM_door_18 : decode b_RM_door 18 = .ok (.aload_n 0, 1) := by decide +kernel
theorem d_RM_door_19 : decode b_RM_door 19 = .ok (.getfield 36, 3) := by decide +kernel
theorem d_RM_door_22 : decode b_RM_door 22 = .ok (.ifCond .le 5, 3) := by decide +kernel
theorem d_RM_door_25 : decode b_RM_door 25 = .ok (.iconst 0, 1) := by decide +kernel
theorem d_RM_door_26 : decode b_RM_door 26 = .ok (.ireturn, 1) := by decide +kernel
theorem d_RM_door_27 : decode b_RM_door 27 = .ok (.aload_n 0, 1) := by decide +kernel
theorem d_RM_door_28 : decode b_RM_door 28 = .ok (.dup, 1) := by decide +kernel
theorem d_RM_door_29 : decode b_RM_door 29 = .ok (.getfield 42, 3) := by decide +kernel
theorem d_RM_door_32 : decode b_RM_door 32 = .ok (.iconst 1, 1) := by decide +kernel
theorem d_RM_door_33 : decode b_RM_door 33 = .ok (.iadd, 1) := by decide +kernel
theorem d_RM_door_34 : decode b_RM_door 34 = .ok (.putfield 42, 3) := by decide +kernel
theorem d_RM_door_37 : decode b_RM_door 37 = .ok (.aload_n 0, 1) := by decide +kernel
theorem d_RM_door_38 : decode b_RM_door 38 = .ok (.iconst 0, 1) := by decide +kernel
theorem d_RM_door_39 : decode b_RM_door 39 = .ok (.putfield 45, 3) := by decide +kernel
theorem d_RM_door_42 : decode b_RM_door 42 = .ok (.aload_n 0, 1) := by decide +kernel
theorem d_RM_door_43 : decode b_RM_door 43 = .ok (.getfield 42, 3) := by decide +kernel
theorem d_RM_door_46 : decode b_RM_door 46 = .ok (.iconst 1, 1) := by decide +kernel
theorem d_RM_door_47 : decode b_RM_door 47 = .ok (.isub, 1) := by decide +kernel
theorem d_RM_door_48 : decode b_RM_door 48 = .ok (.ireturn, 1) := by decide +kernel
theorem d_RM_must_0 : decode b_RM_must 0 = .ok (.aload_n 0, 1) := by decide +kernel
theorem d_RM_must_1 : decode b_RM_must 1 = .ok (.aload_n 0, 1) := by decide +kernel
theorem d_RM_must_2 : decode b_RM_must 2 = .ok (.iload_n 1, 1) := by decide +kernel
theorem d_RM_must_3 : decode b_RM_must 3 = .ok (.invokevirtual 49, 3) := by decide +kernel
theorem d_RM_must_6 : decode b_RM_must 6 = .ok (.ifCond .ne 11, 3) := by decide +kernel
theorem d_RM_must_9 : decode b_RM_must 9 = .ok (.aload_n 0, 1) := by decide +kernel
theorem d_RM_must_10 : decode b_RM_must 10 = .ok (.iload_n 2, 1) := by decide +kernel
theorem d_RM_must_11 : decode b_RM_must 11 = .ok (.invokevirtual 53, 3) := by decide +kernel
theorem d_RM_must_14 : decode b_RM_must 14 = .ok (.ifCond .eq 7, 3) := by decide +kernel
theorem d_RM_must_17 : decode b_RM_must 17 = .ok (.iconst 1, 1) := by decide +kernel
theorem d_RM_must_18 : decode b_RM_must 18 = .ok (.goto 4, 3) := by decide +kernel
theorem d_RM_must_21 : decode b_RM_must 21 = .ok (.iconst 0, 1) := by decide +kernel
theorem d_RM_must_22 : decode b_RM_must 22 = .ok (.putfield 36, 3) := by decide +kernel
theorem d_RM_must_25 : decode b_RM_must 25 = .ok (.aload_n 0, 1) := by decide +kernel
theorem d_RM_must_26 : decode b_RM_must 26 = .ok (.getfield 36, 3) := by decide +kernel
theorem d_RM_must_29 : decode b_RM_must 29 = .ok (.ifCond .le 5, 3) := by decide +kernel
theorem d_RM_must_32 : decode b_RM_must 32 = .ok (.iconst 0, 1) := by decide +kernel
theorem d_RM_must_33 : decode b_RM_must 33 = .ok (.ireturn, 1) := by decide +kernel
theorem d_RM_must_34 : decode b_RM_must 34 = .ok (.aload_n 0, 1) := by decide +kernel
theorem d_RM_must_35 : decode b_RM_must 35 = .ok (.getfield 7, 3) := by decide +kernel
theorem d_RM_must_38 : decode b_RM_must 38 = .ok (.bipush 6, 2) := by decide +kernel
theorem d_RM_must_40 : decode b_RM_must 40 = .ok (.iload_n 1, 1) := by decide +kernel
theorem d_RM_must_41 : decode b_RM_must 41 = .ok (.imul, 1) := by decide +kernel
theorem d_RM_must_42 : decode b_RM_must 42 = .ok (.iload_n 2, 1) := by decide +kernel
theorem d_RM_must_43 : decode b_RM_must 43 = .ok (.iadd, 1) := by decide +kernel
theorem d_RM_must_44 : decode b_RM_must 44 = .ok (.baload, 1) := by decide +kernel
theorem d_RM_must_45 : decode b_RM_must 45 = .ok (.istore 4, 2) := by decide +kernel
theorem d_RM_must_47 : decode b_RM_must 47 = .ok (.aload_n 0, 1) := by decide +kernel
theorem d_RM_must_48 : decode b_RM_must 48 = .ok (.getfield 7, 3) := by decide +kernel
theorem d_RM_must_51 : decode b_RM_must 51 = .ok (.bipush 6, 2) := by decide +kernel
theorem d_RM_must_53 : decode b_RM_must 53 = .ok (.iload_n 1, 1) := by decide +kernel
theorem d_RM_must_54 : decode b_RM_must 54 = .ok (.imul, 1) := by decide +kernel
theorem d_RM_must_55 : decode b_RM_must 55 = .ok (.iload_n 2, 1) := by decide +kernel
theorem d_RM_must_56 : decode b_RM_must 56 = .ok (.iadd, 1) := by decide +kernel
theorem d_RM_must_57 : decode b_RM_must 57 = .ok (.iload_n 3, 1) := by decide +kernel
theorem d_RM_must_58 : decode b_RM_must 58 = .ok (.bastore, 1) := by decide +kernel
theorem d_RM_must_59 : decode b_RM_must 59 = .ok (.aload_n 0, 1) := by decide +kernel
theorem d_RM_must_60 : decode b_RM_must 60 = .ok (.iconst 0, 1) := by decide +kernel
theorem d_RM_must_61 : decode b_RM_must 61 = .ok (.putfield 45, 3) := by decide +kernel
theorem d_RM_must_64 : decode b_RM_must 64 = .ok (.iload 4, 2) := by decide +kernel
theorem d_RM_must_66 : decode b_RM_must 66 = .ok (.ireturn, 1) := by decide +kernel
theorem d_RM_noKey_0 : decode b_RM_noKey 0 = .ok (.iload_n 1, 1) := by decide +kernel
theorem d_RM_noKey_1 : decode b_RM_noKey 1 = .ok (.ifCond .lt 11, 3) := by decide +kernel
theorem d_RM_noKey_4 : decode b_RM_noKey 4 = .ok (.iload_n 1, 1) := by decide +kernel
theorem d_RM_noKey_5 : decode b_RM_noKey 5 = .ok (.aload_n 0, 1) := by decide +kernel
theorem d_RM_noKey_6 : decode b_RM_noKey 6 = .ok (.getfield 39, 3) := by decide +kernel
theorem d_RM_noKey_9 : decode b_RM_noKey 9 = .ok (.if_icmp .lt 7, 3) := by decide +kernel
theorem d_RM_noKey_12 : decode b_RM_noKey 12 = .ok (.iconst 1, 1) := by decide +kernel
theorem d_RM_noKey_13 : decode b_RM_noKey 13 = .ok (.goto 4, 3) := by decide +kernel
theorem d_RM_noKey_16 : decode b_RM_noKey 16 = .ok (.iconst 0, 1) := by decide +kernel
theorem d_RM_noKey_17 : decode b_RM_noKey 17 = .ok (.ireturn, 1) := by decide +kernel
theorem d_RM_noDoor_0 : decode b_RM_noDoor 0 = .ok (.iload_n 1, 1) := by decide +kernel
theorem d_RM_noDoor_1 : decode b_RM_noDoor 1 = .ok (.ifCond .lt 11, 3) := by decide +kernel
theorem d_RM_noDoor_4 : decode b_RM_noDoor 4 = .ok (.iload_n 1, 1) := by decide +kernel
theorem d_RM_noDoor_5 : decode b_RM_noDoor 5 = .ok (.aload_n 0, 1) := by decide +kernel
theorem d_RM_noDoor_6 : decode b_RM_noDoor 6 = .ok (.getfield 42, 3) := by decide +kernel
theorem d_RM_noDoor_9 : decode b_RM_noDoor 9 = .ok (.if_icmp .lt 7, 3) := by decide +kernel
theorem d_RM_noDoor_12 : decode b_RM_noDoor 12 = .ok (.iconst 1, 1) := by decide +kernel
theorem d_RM_noDoor_13 : decode b_RM_noDoor 13 = .ok (.goto 4, 3) := by decide +kernel
theorem d_RM_noDoor_16 : decode b_RM_noDoor 16 = .ok (.iconst 0, 1) := by decide +kernel
theorem d_RM_noDoor_17 : decode b_RM_noDoor 17 = .ok (.ireturn, 1) := by decide +kernel
theorem d_RM_step_0 : decode b_RM_step 0 = .ok (.aload_n 0, 1) := by decide +kernel
theorem d_RM_step_1 : decode b_RM_step 1 = .ok (.iload_n 1, 1) := by decide +kernel
theorem d_RM_step_2 : decode b_RM_step 2 = .ok (.iconst 0, 1) := by decide +kernel
theorem d_RM_step_3 : decode b_RM_step 3 = .ok (.bipush 7, 2) := by decide +kernel
theorem d_RM_step_5 : decode b_RM_step 5 = .ok (.invokestatic 56, 3) := by decide +kernel
theorem d_RM_step_8 : decode b_RM_step 8 = .ok (.ifCond .eq 7, 3) := by decide +kernel
theorem d_RM_step_11 : decode b_RM_step 11 = .ok (.iconst 0, 1) := by decide +kernel
theorem d_RM_step_12 : decode b_RM_step 12 = .ok (.goto 4, 3) := by decide +kernel
theorem d_RM_step_15 : decode b_RM_step 15 = .ok (.iconst 1, 1) := by decide +kernel
theorem d_RM_step_16 : decode b_RM_step 16 = .ok (.putfield 36, 3) := by decide +kernel
theorem d_RM_step_19 : decode b_RM_step 19 = .ok (.aload_n 0, 1) := by decide +kernel
theorem d_RM_step_20 : decode b_RM_step 20 = .ok (.getfield 36, 3) := by decide +kernel
theorem d_RM_step_23 : decode b_RM_step 23 = .ok (.ifCond .le 5, 3) := by decide +kernel
theorem d_RM_step_26 : decode b_RM_step 26 = .ok (.iconst 0, 1) := by decide +kernel
theorem d_RM_step_27 : decode b_RM_step 27 = .ok (.ireturn, 1) := by decide +kernel
theorem d_RM_step_28 : decode b_RM_step 28 = .ok (.aload_n 0, 1) := by decide +kernel
theorem d_RM_step_29 : decode b_RM_step 29 = .ok (.getfield 13, 3) := by decide +kernel
theorem d_RM_step_32 : decode b_RM_step 32 = .ok (.istore_n 2, 1) := by decide +kernel
theorem d_RM_step_33 : decode b_RM_step 33 = .ok (.aload_n 0, 1) := by decide +kernel
theorem d_RM_step_34 : decode b_RM_step 34 = .ok (.iload_n 1, 1) := by decide +kernel
theorem d_RM_step_35 : decode b_RM_step 35 = .ok (.putfield 13, 3) := by decide +kernel
theorem d_RM_step_38 : decode b_RM_step 38 = .ok (.aload_n 0, 1) := by decide +kernel
theorem d_RM_step_39 : decode b_RM_step 39 = .ok (.iconst 0, 1) := by decide +kernel
theorem d_RM_step_40 : decode b_RM_step 40 = .ok (.putfield 45, 3) := by decide +kernel
theorem d_RM_step_43 : decode b_RM_step 43 = .ok (.iload_n 2, 1) := by decide +kernel
theorem d_RM_step_44 : decode b_RM_step 44 = .ok (.ireturn, 1) := by decide +kernel
theorem d_RM_isIn_0 : decode b_RM_isIn 0 = .ok (.iload_n 0, 1) := by decide +kernel
theorem d_RM_isIn_1 : decode b_RM_isIn 1 = .ok (.iload_n 1, 1) := by decide +kernel
theorem d_RM_isIn_2 : decode b_RM_isIn 2 = .ok (.if_icmp .lt 12, 3) := by decide +kernel
theorem d_RM_isIn_5 : decode b_RM_isIn 5 = .ok (.iload_n 0, 1) := by decide +kernel
theorem d_RM_isIn_6 : decode b_RM_isIn 6 = .ok (.iload_n 2, 1) := by decide +kernel
theorem d_RM_isIn_7 : decode b_RM_isIn 7 = .ok (.if_icmp .gt 7, 3) := by decide +kernel
theorem d_RM_isIn_10 : decode b_RM_isIn 10 = .ok (.iconst 1, 1) := by decide +kernel
theorem d_RM_isIn_11 : decode b_RM_isIn 11 = .ok (.goto 4, 3) := by decide +kernel
theorem d_RM_isIn_14 : decode b_RM_isIn 14 = .ok (.iconst 0, 1) := by decide +kernel
theorem d_RM_isIn_15 : decode b_RM_isIn 15 = .ok (.ireturn, 1) := by decide +kernel
theorem d_RM_bar_0 : decode b_RM_bar 0 = .ok (.aload_n 0, 1) := by decide +kernel
theorem d_RM_bar_1 : decode b_RM_bar 1 = .ok (.aload_n 0, 1) := by decide +kernel
theorem d_RM_bar_2 : decode b_RM_bar 2 = .ok (.iload_n 1, 1) := by decide +kernel
theorem d_RM_bar_3 : decode b_RM_bar 3 = .ok (.invokevirtual 60, 3) := by decide +kernel
theorem d_RM_bar_6 : decode b_RM_bar 6 = .ok (.ifCond .ne 11, 3) := by decide +kernel
theorem d_RM_bar_9 : decode b_RM_bar 9 = .ok (.aload_n 0, 1) := by decide +kernel
theorem d_RM_bar_10 : decode b_RM_bar 10 = .ok (.iload_n 2, 1) := by decide +kernel
theorem d_RM_bar_11 : decode b_RM_bar 11 = .ok (.invokevirtual 60, 3) := by decide +kernel
theorem d_RM_bar_14 : decode b_RM_bar 14 = .ok (.ifCond .eq 7, 3) := by decide +kernel
theorem d_RM_bar_17 : decode b_RM_bar 17 = .ok (.iconst 1, 1) := by decide +kernel
theorem d_RM_bar_18 : decode b_RM_bar 18 = .ok (.goto 4, 3) := by decide +kernel
theorem d_RM_bar_21 : decode b_RM_bar 21 = .ok (.iconst 0, 1) := by decide +kernel
theorem d_RM_bar_22 : decode b_RM_bar 22 = .ok (.putfield 36, 3) := by decide +kernel
theorem d_RM_bar_25 : decode b_RM_bar 25 = .ok (.aload_n 0, 1) := by decide +kernel
theorem d_RM_bar_26 : decode b_RM_bar 26 = .ok (.getfield 36, 3) := by decide +kernel
theorem d_RM_bar_29 : decode b_RM_bar 29 = .ok (.ifCond .le 5, 3) := by decide +kernel
theorem d_RM_bar_32 : decode b_RM_bar 32 = .ok (.iconst 0, 1) := by decide +kernel
theorem d_RM_bar_33 : decode b_RM_bar 33 = .ok (.ireturn, 1) := by decide +kernel
theorem d_RM_bar_34 : decode b_RM_bar 34 = .ok (.aload_n 0, 1) := by decide +kernel
theorem d_RM_bar_35 : decode b_RM_bar 35 = .ok (.getfield 20, 3) := by decide +kernel
theorem d_RM_bar_38 : decode b_RM_bar 38 = .ok (.bipush 8, 2) := by decide +kernel
theorem d_RM_bar_40 : decode b_RM_bar 40 = .ok (.iload_n 1, 1) := by decide +kernel
theorem d_RM_bar_41 : decode b_RM_bar 41 = .ok (.imul, 1) := by decide +kernel
theorem d_RM_bar_42 : decode b_RM_bar 42 = .ok (.iload_n 2, 1) := by decide +kernel
theorem d_RM_bar_43 : decode b_RM_bar 43 = .ok (.iadd, 1) := by decide +kernel
theorem d_RM_bar_44 : decode b_RM_bar 44 = .ok (.baload, 1) := by decide +kernel
theorem d_RM_bar_45 : decode b_RM_bar 45 = .ok (.istore 4, 2) := by decide +kernel
theorem d_RM_bar_47 : decode b_RM_bar 47 = .ok (.aload_n 0, 1) := by decide +kernel
theorem d_RM_bar_48 : decode b_RM_bar 48 = .ok (.getfield 20, 3) := by decide +kernel
theorem d_RM_bar_51 : decode b_RM_bar 51 = .ok (.bipush 8, 2) := by decide +kernel
theorem d_RM_bar_53 : decode b_RM_bar 53 = .ok (.iload_n 1, 1) := by decide +kernel
theorem d_RM_bar_54 : decode b_RM_bar 54 = .ok (.imul, 1) := by decide +kernel
theorem d_RM_bar_55 : decode b_RM_bar 55 = .ok (.iload_n 2, 1) := by decide +kernel
theorem d_RM_bar_56 : decode b_RM_bar 56 = .ok (.iadd, 1) := by decide +kernel
theorem d_RM_bar_57 : decode b_RM_bar 57 = .ok (.iload_n 3, 1) := by decide +kernel
theorem d_RM_bar_58 : decode b_RM_bar 58 = .ok (.bastore, 1) := by decide +kernel
theorem d_RM_bar_59 : decode b_RM_bar 59 = .ok (.aload_n 0, 1) := by decide +kernel
theorem d_RM_bar_60 : decode b_RM_bar 60 = .ok (.iconst 0, 1) := by decide +kernel
theorem d_RM_bar_61 : decode b_RM_bar 61 = .ok (.putfield 45, 3) := by decide +kernel
theorem d_RM_bar_64 : decode b_RM_bar 64 = .ok (.iload 4, 2) := by decide +kernel
theorem d_RM_bar_66 : decode b_RM_bar 66 = .ok (.ireturn, 1) := by decide +kernel
theorem d_RM_noDepth_0 : decode b_RM_noDepth 0 = .ok (.iload_n 1, 1) := by decide +kernel
theorem d_RM_noDepth_1 : decode b_RM_noDepth 1 = .ok (.ifCond .lt 11, 3) := by decide +kernel
theorem d_RM_noDepth_4 : decode b_RM_noDepth 4 = .ok (.iload_n 1, 1) := by decide +kernel
theorem d_RM_noDepth_5 : decode b_RM_noDepth 5 = .ok (.aload_n 0, 1) := by decide +kernel
theorem d_RM_noDepth_6 : decode b_RM_noDepth 6 = .ok (.getfield 33, 3) := by decide +kernel
theorem d_RM_noDepth_9 : decode b_RM_noDepth 9 = .ok (.if_icmp .lt 7, 3) := by decide +kernel
theorem d_RM_noDepth_12 : decode b_RM_noDepth 12 = .ok (.iconst 1, 1) := by decide +kernel
theorem d_RM_noDepth_13 : decode b_RM_noDepth 13 = .ok (.goto 4, 3) := by decide +kernel
theorem d_RM_noDepth_16 : decode b_RM_noDepth 16 = .ok (.iconst 0, 1) := by decide +kernel
theorem d_RM_noDepth_17 : decode b_RM_noDepth 17 = .ok (.ireturn, 1) := by decide +kernel
theorem d_RM_top_0 : decode b_RM_top 0 = .ok (.aload_n 0, 1) := by decide +kernel
theorem d_RM_top_1 : decode b_RM_top 1 = .ok (.iload_n 1, 1) := by decide +kernel
theorem d_RM_top_2 : decode b_RM_top 2 = .ok (.iconst 1, 1) := by decide +kernel
theorem d_RM_top_3 : decode b_RM_top 3 = .ok (.bipush 8, 2) := by decide +kernel
theorem d_RM_top_5 : decode b_RM_top 5 = .ok (.invokestatic 56, 3) := by decide +kernel
theorem d_RM_top_8 : decode b_RM_top 8 = .ok (.ifCond .eq 7, 3) := by decide +kernel
theorem d_RM_top_11 : decode b_RM_top 11 = .ok (.iconst 0, 1) := by decide +kernel
theorem d_RM_top_12 : decode b_RM_top 12 = .ok (.goto 4, 3) := by decide +kernel
theorem d_RM_top_15 : decode b_RM_top 15 = .ok (.iconst 1, 1) := by decide +kernel
theorem d_RM_top_16 : decode b_RM_top 16 = .ok (.putfield 36, 3) := by decide +kernel
theorem d_RM_top_19 : decode b_RM_top 19 = .ok (.aload_n 0, 1) := by decide +kernel
theorem d_RM_top_20 : decode b_RM_top 20 = .ok (.getfield 36, 3) := by decide +kernel
theorem d_RM_top_23 : decode b_RM_top 23 = .ok (.ifCond .le 5, 3) := by decide +kernel
theorem d_RM_top_26 : decode b_RM_top 26 = .ok (.iconst 0, 1) := by decide +kernel
theorem d_RM_top_27 : decode b_RM_top 27 = .ok (.ireturn, 1) := by decide +kernel
theorem d_RM_top_28 : decode b_RM_top 28 = .ok (.aload_n 0, 1) := by decide +kernel
theorem d_RM_top_29 : decode b_RM_top 29 = .ok (.getfield 17, 3) := by decide +kernel
theorem d_RM_top_32 : decode b_RM_top 32 = .ok (.istore_n 2, 1) := by decide +kernel
theorem d_RM_top_33 : decode b_RM_top 33 = .ok (.aload_n 0, 1) := by decide +kernel
theorem d_RM_top_34 : decode b_RM_top 34 = .ok (.iload_n 1, 1) := by decide +kernel
theorem d_RM_top_35 : decode b_RM_top 35 = .ok (.putfield 17, 3) := by decide +kernel
theorem d_RM_top_38 : decode b_RM_top 38 = .ok (.aload_n 0, 1) := by decide +kernel
theorem d_RM_top_39 : decode b_RM_top 39 = .ok (.iconst 0, 1) := by decide +kernel
theorem d_RM_top_40 : decode b_RM_top 40 = .ok (.putfield 45, 3) := by decide +kernel
theorem d_RM_top_43 : decode b_RM_top 43 = .ok (.iload_n 2, 1) := by decide +kernel
theorem d_RM_top_44 : decode b_RM_top 44 = .ok (.ireturn, 1) := by decide +kernel
theorem d_RM_run_0 : decode b_RM_run 0 = .ok (.aload_n 0, 1) := by decide +kernel
theorem d_RM_run_1 : decode b_RM_run 1 = .ok (.iload_n 1, 1) := by decide +kernel
theorem d_RM_run_2 : decode b_RM_run 2 = .ok (.iconst 0, 1) := by decide +kernel
theorem d_RM_run_3 : decode b_RM_run 3 = .ok (.ldc 74, 2) := by decide +kernel
theorem d_RM_run_5 : decode b_RM_run 5 = .ok (.invokestatic 56, 3) := by decide +kernel
theorem d_RM_run_8 : decode b_RM_run 8 = .ok (.ifCond .ne 7, 3) := by decide +kernel
theorem d_RM_run_11 : decode b_RM_run 11 = .ok (.iconst 1, 1) := by decide +kernel
theorem d_RM_run_12 : decode b_RM_run 12 = .ok (.goto 15, 3) := by decide +kernel
theorem d_RM_run_15 : decode b_RM_run 15 = .ok (.aload_n 0, 1) := by decide +kernel
theorem d_RM_run_16 : decode b_RM_run 16 = .ok (.getfield 39, 3) := by decide +kernel
theorem d_RM_run_19 : decode b_RM_run 19 = .ok (.ifCond .ne 7, 3) := by decide +kernel
theorem d_RM_run_22 : decode b_RM_run 22 = .ok (.iconst 2, 1) := by decide +kernel
theorem d_RM_run_23 : decode b_RM_run 23 = .ok (.goto 4, 3) := by decide +kernel
theorem d_RM_run_26 : decode b_RM_run 26 = .ok (.iconst 0, 1) := by decide +kernel
theorem d_RM_run_27 : decode b_RM_run 27 = .ok (.putfield 36, 3) := by decide +kernel
theorem d_RM_run_30 : decode b_RM_run 30 = .ok (.aload_n 0, 1) := by decide +kernel
theorem d_RM_run_31 : decode b_RM_run 31 = .ok (.getfield 36, 3) := by decide +kernel
theorem d_RM_run_34 : decode b_RM_run 34 = .ok (.ifCond .le 5, 3) := by decide +kernel
theorem d_RM_run_37 : decode b_RM_run 37 = .ok (.iconst 0, 1) := by decide +kernel
theorem d_RM_run_38 : decode b_RM_run 38 = .ok (.ireturn, 1) := by decide +kernel
theorem d_RM_run_39 : decode b_RM_run 39 = .ok (.aload_n 0, 1) := by decide +kernel
theorem d_RM_run_40 : decode b_RM_run 40 = .ok (.iconst 0, 1) := by decide +kernel
theorem d_RM_run_41 : decode b_RM_run 41 = .ok (.putfield 45, 3) := by decide +kernel
theorem d_RM_run_44 : decode b_RM_run 44 = .ok (.aload_n 0, 1) := by decide +kernel
theorem d_RM_run_45 : decode b_RM_run 45 = .ok (.iconst 0, 1) := by decide +kernel
theorem d_RM_run_46 : decode b_RM_run 46 = .ok (.putfield 75, 3) := by decide +kernel
theorem d_RM_run_49 : decode b_RM_run 49 = .ok (.iconst 0, 1) := by decide +kernel
theorem d_RM_run_50 : decode b_RM_run 50 = .ok (.istore_n 2, 1) := by decide +kernel
theorem d_RM_run_51 : decode b_RM_run 51 = .ok (.aload_n 0, 1) := by decide +kernel
theorem d_RM_run_52 : decode b_RM_run 52 = .ok (.getfield 23, 3) := by decide +kernel
theorem d_RM_run_55 : decode b_RM_run 55 = .ok (.iconst 0, 1) := by decide +kernel
theorem d_RM_run_56 : decode b_RM_run 56 = .ok (.iconst (-1), 1) := by decide +kernel
theorem d_RM_run_57 : decode b_RM_run 57 = .ok (.iastore, 1) := by decide +kernel
theorem d_RM_run_58 : decode b_RM_run 58 = .ok (.iload_n 2, 1) := by decide +kernel
theorem d_RM_run_59 : decode b_RM_run 59 = .ok (.ifCond .lt 180, 3) := by decide +kernel
theorem d_RM_run_62 : decode b_RM_run 62 = .ok (.iload_n 2, 1) := by decide +kernel
theorem d_RM_run_63 : decode b_RM_run 63 = .ok (.aload_n 0, 1) := by decide +kernel
theorem d_RM_run_64 : decode b_RM_run 64 = .ok (.getfield 30, 3) := by decide +kernel
theorem d_RM_run_67 : decode b_RM_run 67 = .ok (.aload_n 0, 1) := by decide +kernel
theorem d_RM_run_68 : decode b_RM_run 68 = .ok (.getfield 39, 3) := by decide +kernel
theorem d_RM_run_71 : decode b_RM_run 71 = .ok (.imul, 1) := by decide +kernel
theorem d_RM_run_72 : decode b_RM_run 72 = .ok (.if_icmp .ge 167, 3) := by decide +kernel
theorem d_RM_run_75 : decode b_RM_run 75 = .ok (.aload_n 0, 1) := by decide +kernel
theorem d_RM_run_76 : decode b_RM_run 76 = .ok (.getfield 23, 3) := by decide +kernel
theorem d_RM_run_79 : decode b_RM_run 79 = .ok (.iload_n 2, 1) := by decide +kernel
theorem d_RM_run_80 : decode b_RM_run 80 = .ok (.dup2, 1) := by decide +kernel
theorem d_RM_run_81 : decode b_RM_run 81 = .ok (.iaload, 1) := by decide +kernel
theorem d_RM_run_82 : decode b_RM_run 82 = .ok (.iconst 1, 1) := by decide +kernel
theorem d_RM_run_83 : decode b_RM_run 83 = .ok (.iadd, 1) := by decide +kernel
theorem d_RM_run_84 : decode b_RM_run 84 = .ok (.iastore, 1) := by decide +kernel
theorem d_RM_run_85 : decode b_RM_run 85 = .ok (.aload_n 0, 1) := by decide +kernel
theorem d_RM_run_86 : decode b_RM_run 86 = .ok (.getfield 23, 3) := by decide +kernel
theorem d_RM_run_89 : decode b_RM_run 89 = .ok (.iload_n 2, 1) := by decide +kernel
theorem d_RM_run_90 : decode b_RM_run 90 = .ok (.iaload, 1) := by decide +kernel
theorem d_RM_run_91 : decode b_RM_run 91 = .ok (.aload_n 0, 1) := by decide +kernel
theorem d_RM_run_92 : decode b_RM_run 92 = .ok (.getfield 33, 3) := by decide +kernel
theorem d_RM_run_95 : decode b_RM_run 95 = .ok (.if_icmp .ne 9, 3) := by decide +kernel
theorem d_RM_run_98 : decode b_RM_run 98 = .ok (.iinc 2 (-1), 3) := by decide +kernel
theorem d_RM_run_101 : decode b_RM_run 101 = .ok (.goto (-43), 3) := by decide +kernel
theorem d_RM_run_104 : decode b_RM_run 104 = .ok (.aload_n 0, 1) := by decide +kernel
theorem d_RM_run_105 : decode b_RM_run 105 = .ok (.getfield 75, 3) := by decide +kernel
theorem d_RM_run_108 : decode b_RM_run 108 = .ok (.iload_n 1, 1) := by decide +kernel
theorem d_RM_run_109 : decode b_RM_run 109 = .ok (.if_icmp .ne 5, 3) := by decide +kernel
theorem d_RM_run_112 : decode b_RM_run 112 = .ok (.iconst 2, 1) := by decide +kernel
theorem d_RM_run_113 : decode b_RM_run 113 = .ok (.ireturn, 1) := by decide +kernel
theorem d_RM_run_114 : decode b_RM_run 114 = .ok (.aload_n 0, 1) := by decide +kernel
theorem d_RM_run_115 : decode b_RM_run 115 = .ok (.dup, 1) := by decide +kernel
theorem d_RM_run_116 : decode b_RM_run 116 = .ok (.getfield 75, 3) := by decide +kernel
theorem d_RM_run_119 : decode b_RM_run 119 = .ok (.iconst 1, 1) := by decide +kernel
theorem d_RM_run_120 : decode b_RM_run 120 = .ok (.iadd, 1) := by decide +kernel
theorem d_RM_run_121 : decode b_RM_run 121 = .ok (.putfield 75, 3) := by decide +kernel
theorem d_RM_run_124 : decode b_RM_run 124 = .ok (.iload_n 2, 1) := by decide +kernel
theorem d_RM_run_125 : decode b_RM_run 125 = .ok (.aload_n 0, 1) := by decide +kernel
theorem d_RM_run_126 : decode b_RM_run 126 = .ok (.getfield 30, 3) := by decide +kernel
theorem d_RM_run_129 : decode b_RM_run 129 = .ok (.irem, 1) := by decide +kernel
theorem d_RM_run_130 : decode b_RM_run 130 = .ok (.ifCond .eq 24, 3) := by decide +kernel
theorem d_RM_run_133 : decode b_RM_run 133 = .ok (.aload_n 0, 1) := by decide +kernel
theorem d_RM_run_134 : decode b_RM_run 134 = .ok (.aload_n 0, 1) := by decide +kernel
theorem d_RM_run_135 : decode b_RM_run 135 = .ok (.getfield 23, 3) := by decide +kernel
theorem d_RM_run_138 : decode b_RM_run 138 = .ok (.iload_n 2, 1) := by decide +kernel
theorem d_RM_run_139 : decode b_RM_run 139 = .ok (.iconst 1, 1) := by decide +kernel
theorem d_RM_run_140 : decode b_RM_run 140 = .ok (.isub, 1) := by decide +kernel
theorem d_RM_run_141 : decode b_RM_run 141 = .ok (.iaload, 1) := by decide +kernel
theorem d_RM_run_142 : decode b_RM_run 142 = .ok (.aload_n 0, 1) := by decide +kernel
theorem d_RM_run_143 : decode b_RM_run 143 = .ok (.getfield 23, 3) := by decide +kernel
theorem d_RM_run_146 : decode b_RM_run 146 = .ok (.iload_n 2, 1) := by decide +kernel
theorem d_RM_run_147 : decode b_RM_run 147 = .ok (.iaload, 1) := by decide +kernel
theorem d_RM_run_148 : decode b_RM_run 148 = .ok (.invokevirtual 78, 3) := by decide +kernel
theorem d_RM_run_151 : decode b_RM_run 151 = .ok (.ifCond .eq 7, 3) := by decide +kernel
theorem d_RM_run_154 : decode b_RM_run 154 = .ok (.iconst 1, 1) := by decide +kernel
theorem d_RM_run_155 : decode b_RM_run 155 = .ok (.goto 4, 3) := by decide +kernel
theorem d_RM_run_158 : decode b_RM_run 158 = .ok (.iconst 0, 1) := by decide +kernel
theorem d_RM_run_159 : decode b_RM_run 159 = .ok (.istore_n 3, 1) := by decide +kernel
theorem d_RM_run_160 : decode b_RM_run 160 = .ok (.iload_n 3, 1) := by decide +kernel
theorem d_RM_run_161 : decode b_RM_run 161 = .ok (.ifCond .eq 37, 3) := by decide +kernel
theorem d_RM_run_164 : decode b_RM_run 164 = .ok (.iload_n 2, 1) := by decide +kernel
theorem d_RM_run_165 : decode b_RM_run 165 = .ok (.aload_n 0, 1) := by decide +kernel
theorem d_RM_run_166 : decode b_RM_run 166 = .ok (.getfield 30, 3) := by decide +kernel
theorem d_RM_run_169 : decode b_RM_run 169 = .ok (.irem, 1) := by decide +kernel
theorem d_RM_run_170 : decode b_RM_run 170 = .ok (.aload_n 0, 1) := by decide +kernel
theorem d_RM_run_171 : decode b_RM_run 171 = .ok (.getfield 30, 3) := by decide +kernel
theorem d_RM_run_174 : decode b_RM_run 174 = .ok (.iconst 1, 1) := by decide +kernel
theorem d_RM_run_175 : decode b_RM_run 175 = .ok (.isub, 1) := by decide +kernel
theorem d_RM_run_176 : decode b_RM_run 176 = .ok (.if_icmp .lt 18, 3) := by decide +kernel
theorem d_RM_run_179 : decode b_RM_run 179 = .ok (.aload_n 0, 1) := by decide +kernel
theorem d_RM_run_180 : decode b_RM_run 180 = .ok (.iload_n 2, 1) := by decide +kernel
theorem d_RM_run_181 : decode b_RM_run 181 = .ok (.aload_n 0, 1) := by decide +kernel
theorem d_RM_run_182 : decode b_RM_run 182 = .ok (.getfield 30, 3) := by decide +kernel
theorem d_RM_run_185 : decode b_RM_run 185 = .ok (.idiv, 1) := by decide +kernel
theorem d_RM_run_186 : decode b_RM_run 186 = .ok (.iconst 1, 1) := by decide +kernel
theorem d_RM_run_187 : decode b_RM_run 187 = .ok (.iadd, 1) := by decide +kernel
theorem d_RM_run_188 : decode b_RM_run 188 = .ok (.invokevirtual 81, 3) := by decide +kernel
theorem d_RM_run_191 : decode b_RM_run 191 = .ok (.ifCond .eq 7, 3) := by decide +kernel
theorem d_RM_run_194 : decode b_RM_run 194 = .ok (.iconst 1, 1) := by decide +kernel
theorem d_RM_run_195 : decode b_RM_run 195 = .ok (.goto 4, 3) := by decide +kernel
theorem d_RM_run_198 : decode b_RM_run 198 = .ok (.iconst 0, 1) := by decide +kernel
theorem d_RM_run_199 : decode b_RM_run 199 = .ok (.istore_n 3, 1) := by decide +kernel
theorem d_RM_run_200 : decode b_RM_run 200 = .ok (.iload_n 3, 1) := by decide +kernel
theorem d_RM_run_201 : decode b_RM_run 201 = .ok (.ifCond .eq 9, 3) := by decide +kernel
theorem d_RM_run_204 : decode b_RM_run 204 = .ok (.iload_n 2, 1) := by decide +kernel
theorem d_RM_run_205 : decode b_RM_run 205 = .ok (.iconst 1, 1) := by decide +kernel
theorem d_RM_run_206 : decode b_RM_run 206 = .ok (.iadd, 1) := by decide +kernel
theorem d_RM_run_207 : decode b_RM_run 207 = .ok (.goto 4, 3) := by decide +kernel
theorem d_RM_run_210 : decode b_RM_run 210 = .ok (.iload_n 2, 1) := by decide +kernel
theorem d_RM_run_211 : decode b_RM_run 211 = .ok (.istore_n 2, 1) := by decide +kernel
theorem d_RM_run_212 : decode b_RM_run 212 = .ok (.iload_n 3, 1) := by decide +kernel
theorem d_RM_run_213 : decode b_RM_run 213 = .ok (.ifCond .eq 23, 3) := by decide +kernel
theorem d_RM_run_216 : decode b_RM_run 216 = .ok (.iload_n 2, 1) := by decide +kernel
theorem d_RM_run_217 : decode b_RM_run 217 = .ok (.aload_n 0, 1) := by decide +kernel
theorem d_RM_run_218 : decode b_RM_run 218 = .ok (.getfield 30, 3) := by decide +kernel
theorem d_RM_run_221 : decode b_RM_run 221 = .ok (.aload_n 0, 1) := by decide +kernel
theorem d_RM_run_222 : decode b_RM_run 222 = .ok (.getfield 39, 3) := by decide +kernel
theorem d_RM_run_225 : decode b_RM_run 225 = .ok (.imul, 1) := by decide +kernel
theorem d_RM_run_226 : decode b_RM_run 226 = .ok (.if_icmp .ge 10, 3) := by decide +kernel
theorem d_RM_run_229 : decode b_RM_run 229 = .ok (.aload_n 0, 1) := by decide +kernel
theorem d_RM_run_230 : decode b_RM_run 230 = .ok (.getfield 23, 3) := by decide +kernel
theorem d_RM_run_233 : decode b_RM_run 233 = .ok (.iload_n 2, 1) := by decide +kernel
theorem d_RM_run_234 : decode b_RM_run 234 = .ok (.iconst (-1), 1) := by decide +kernel
theorem d_RM_run_235 : decode b_RM_run 235 = .ok (.iastore, 1) := by decide +kernel
theorem d_RM_run_236 : decode b_RM_run 236 = .ok (.goto (-178), 3) := by decide +kernel
theorem d_RM_run_239 : decode b_RM_run 239 = .ok (.aload_n 0, 1) := by decide +kernel
theorem d_RM_run_240 : decode b_RM_run 240 = .ok (.iload_n 2, 1) := by decide +kernel
theorem d_RM_run_241 : decode b_RM_run 241 = .ok (.ifCond .lt 7, 3) := by decide +kernel
theorem d_RM_run_244 : decode b_RM_run 244 = .ok (.iconst 1, 1) := by decide +kernel
theorem d_RM_run_245 : decode b_RM_run 245 = .ok (.goto 4, 3) := by decide +kernel
theorem d_RM_run_248 : decode b_RM_run 248 = .ok (.iconst 0, 1) := by decide +kernel
theorem d_RM_run_249 : decode b_RM_run 249 = .ok (.putfield 45, 3) := by decide +kernel
theorem d_RM_run_252 : decode b_RM_run 252 = .ok (.aload_n 0, 1) := by decide +kernel
theorem d_RM_run_253 : decode b_RM_run 253 = .ok (.getfield 45, 3) := by decide +kernel
theorem d_RM_run_256 : decode b_RM_run 256 = .ok (.ifCond .eq 7, 3) := by decide +kernel
theorem d_RM_run_259 : decode b_RM_run 259 = .ok (.iconst 1, 1) := by decide +kernel
theorem d_RM_run_260 : decode b_RM_run 260 = .ok (.goto 4, 3) := by decide +kernel
theorem d_RM_run_263 : decode b_RM_run 263 = .ok (.iconst 0, 1) := by decide +kernel
theorem d_RM_run_264 : decode b_RM_run 264 = .ok (.ireturn, 1) := by decide +kernel
theorem d_RM_mayStand_0 : decode b_RM_mayStand 0 = .ok (.iload_n 1, 1) := by decide +kernel
theorem d_RM_mayStand_1 : decode b_RM_mayStand 1 = .ok (.iload_n 2, 1) := by decide +kernel
theorem d_RM_mayStand_2 : decode b_RM_mayStand 2 = .ok (.if_icmp .le 9, 3) := by decide +kernel
theorem d_RM_mayStand_5 : decode b_RM_mayStand 5 = .ok (.iload_n 1, 1) := by decide +kernel
theorem d_RM_mayStand_6 : decode b_RM_mayStand 6 = .ok (.iload_n 2, 1) := by decide +kernel
theorem d_RM_mayStand_7 : decode b_RM_mayStand 7 = .ok (.isub, 1) := by decide +kernel
theorem d_RM_mayStand_8 : decode b_RM_mayStand 8 = .ok (.goto 6, 3) := by decide +kernel
theorem d_RM_mayStand_11 : decode b_RM_mayStand 11 = .ok (.iload_n 2, 1) := by decide +kernel
theorem d_RM_mayStand_12 : decode b_RM_mayStand 12 = .ok (.iload_n 1, 1) := by decide +kernel
theorem d_RM_mayStand_13 : decode b_RM_mayStand 13 = .ok (.isub, 1) := by decide +kernel
theorem d_RM_mayStand_14 : decode b_RM_mayStand 14 = .ok (.istore_n 3, 1) := by decide +kernel
theorem d_RM_mayStand_15 : decode b_RM_mayStand 15 = .ok (.iload_n 3, 1) := by decide +kernel
theorem d_RM_mayStand_16 : decode b_RM_mayStand 16 = .ok (.aload_n 0, 1) := by decide +kernel
theorem d_RM_mayStand_17 : decode b_RM_mayStand 17 = .ok (.getfield 13, 3) := by decide +kernel
theorem d_RM_mayStand_20 : decode b_RM_mayStand 20 = .ok (.if_icmp .gt 21, 3) := by decide +kernel
theorem d_RM_mayStand_23 : decode b_RM_mayStand 23 = .ok (.aload_n 0, 1) := by decide +kernel
theorem d_RM_mayStand_24 : decode b_RM_mayStand 24 = .ok (.getfield 20, 3) := by decide +kernel
theorem d_RM_mayStand_27 : decode b_RM_mayStand 27 = .ok (.bipush 8, 2) := by decide +kernel
theorem d_RM_mayStand_29 : decode b_RM_mayStand 29 = .ok (.iload_n 1, 1) := by decide +kernel
theorem d_RM_mayStand_30 : decode b_RM_mayStand 30 = .ok (.imul, 1) := by decide +kernel
theorem d_RM_mayStand_31 : decode b_RM_mayStand 31 = .ok (.iload_n 2, 1) := by decide +kernel
theorem d_RM_mayStand_32 : decode b_RM_mayStand 32 = .ok (.iadd, 1) := by decide +kernel
theorem d_RM_mayStand_33 : decode b_RM_mayStand 33 = .ok (.baload, 1) := by decide +kernel
theorem d_RM_mayStand_34 : decode b_RM_mayStand 34 = .ok (.ifCond .ne 7, 3) := by decide +kernel
theorem d_RM_mayStand_37 : decode b_RM_mayStand 37 = .ok (.iconst 1, 1) := by decide +kernel
theorem d_RM_mayStand_38 : decode b_RM_mayStand 38 = .ok (.goto 4, 3) := by decide +kernel
theorem d_RM_mayStand_41 : decode b_RM_mayStand 41 = .ok (.iconst 0, 1) := by decide +kernel
theorem d_RM_mayStand_42 : decode b_RM_mayStand 42 = .ok (.ireturn, 1) := by decide +kernel
theorem d_RM_areGood_0 : decode b_RM_areGood 0 = .ok (.iconst 0, 1) := by decide +kernel
theorem d_RM_areGood_1 : decode b_RM_areGood 1 = .ok (.istore_n 2, 1) := by decide +kernel
theorem d_RM_areGood_2 : decode b_RM_areGood 2 = .ok (.iload_n 2, 1) := by decide +kernel
theorem d_RM_areGood_3 : decode b_RM_areGood 3 = .ok (.iload_n 1, 1) := by decide +kernel
theorem d_RM_areGood_4 : decode b_RM_areGood 4 = .ok (.iconst 1, 1) := by decide +kernel
theorem d_RM_areGood_5 : decode b_RM_areGood 5 = .ok (.isub, 1) := by decide +kernel
theorem d_RM_areGood_6 : decode b_RM_areGood 6 = .ok (.if_icmp .ge 22, 3) := by decide +kernel
theorem d_RM_areGood_9 : decode b_RM_areGood 9 = .ok (.aload_n 0, 1) := by decide +kernel
theorem d_RM_areGood_10 : decode b_RM_areGood 10 = .ok (.iload_n 2, 1) := by decide +kernel
theorem d_RM_areGood_11 : decode b_RM_areGood 11 = .ok (.iload_n 1, 1) := by decide +kernel
theorem d_RM_areGood_12 : decode b_RM_areGood 12 = .ok (.iconst 1, 1) := by decide +kernel
theorem d_RM_areGood_13 : decode b_RM_areGood 13 = .ok (.isub, 1) := by decide +kernel
theorem d_RM_areGood_14 : decode b_RM_areGood 14 = .ok (.invokevirtual 67, 3) := by decide +kernel
theorem d_RM_areGood_17 : decode b_RM_areGood 17 = .ok (.ifCond .eq 5, 3) := by decide +kernel
theorem d_RM_areGood_20 : decode b_RM_areGood 20 = .ok (.iconst 0, 1) := by decide +kernel
theorem d_RM_areGood_21 : decode b_RM_areGood 21 = .ok (.ireturn, 1) := by decide +kernel
theorem d_RM_areGood_22 : decode b_RM_areGood 22 = .ok (.iinc 2 1, 3) := by decide +kernel
theorem d_RM_areGood_25 : decode b_RM_areGood 25 = .ok (.goto (-23), 3) := by decide +kernel
theorem d_RM_areGood_28 : decode b_RM_areGood 28 = .ok (.iconst 0, 1) := by decide +kernel
theorem d_RM_areGood_29 : decode b_RM_areGood 29 = .ok (.istore_n 2, 1) := by decide +kernel
theorem d_RM_areGood_30 : decode b_RM_areGood 30 = .ok (.iload_n 2, 1) := by decide +kernel
theorem d_RM_areGood_31 : decode b_RM_areGood 31 = .ok (.aload_n 0, 1) := by decide +kernel
theorem d_RM_areGood_32 : decode b_RM_areGood 32 = .ok (.getfield 42, 3) := by decide +kernel
theorem d_RM_areGood_35 : decode b_RM_areGood 35 = .ok (.if_icmp .ge 118, 3) := by decide +kernel
theorem d_RM_areGood_38 : decode b_RM_areGood 38 = .ok (.iconst 0, 1) := by decide +kernel
theorem d_RM_areGood_39 : decode b_RM_areGood 39 = .ok (.istore_n 3, 1) := by decide +kernel
theorem d_RM_areGood_40 : decode b_RM_areGood 40 = .ok (.iload_n 3, 1) := by decide +kernel
theorem d_RM_areGood_41 : decode b_RM_areGood 41 = .ok (.aload_n 0, 1) := by decide +kernel
theorem d_RM_areGood_42 : decode b_RM_areGood 42 = .ok (.getfield 30, 3) := by decide +kernel
theorem d_RM_areGood_45 : decode b_RM_areGood 45 = .ok (.if_icmp .ge 63, 3) := by decide +kernel
theorem d_RM_areGood_48 : decode b_RM_areGood 48 = .ok (.iconst 0, 1) := by decide +kernel
theorem d_RM_areGood_49 : decode b_RM_areGood 49 = .ok (.istore 4, 2) := by decide +kernel
theorem d_RM_areGood_51 : decode b_RM_areGood 51 = .ok (.iconst 0, 1) := by decide +kernel
theorem d_RM_areGood_52 : decode b_RM_areGood 52 = .ok (.istore 5, 2) := by decide +kernel
theorem d_RM_areGood_54 : decode b_RM_areGood 54 = .ok (.iload 5, 2) := by decide +kernel
theorem d_RM_areGood_56 : decode b_RM_areGood 56 = .ok (.aload_n 0, 1) := by decide +kernel
theorem d_RM_areGood_57 : decode b_RM_areGood 57 = .ok (.getfield 33, 3) := by decide +kernel
theorem d_RM_areGood_60 : decode b_RM_areGood 60 = .ok (.if_icmp .ge 31, 3) := by decide +kernel
theorem d_RM_areGood_63 : decode b_RM_areGood 63 = .ok (.iload 4, 2) := by decide +kernel
theorem d_RM_areGood_65 : decode b_RM_areGood 65 = .ok (.aload_n 0, 1) := by decide +kernel
theorem d_RM_areGood_66 : decode b_RM_areGood 66 = .ok (.iload_n 1, 1) := by decide +kernel
theorem d_RM_areGood_67 : decode b_RM_areGood 67 = .ok (.iload_n 2, 1) := by decide +kernel
theorem d_RM_areGood_68 : decode b_RM_areGood 68 = .ok (.iload_n 3, 1) := by decide +kernel
theorem d_RM_areGood_69 : decode b_RM_areGood 69 = .ok (.iload 5, 2) := by decide +kernel
theorem d_RM_areGood_71 : decode b_RM_areGood 71 = .ok (.invokevirtual 63, 3) := by decide +kernel
theorem d_RM_areGood_74 : decode b_RM_areGood 74 = .ok (.ifCond .eq 7, 3) := by decide +kernel
theorem d_RM_areGood_77 : decode b_RM_areGood 77 = .ok (.iconst 1, 1) := by decide +kernel
theorem d_RM_areGood_78 : decode b_RM_areGood 78 = .ok (.goto 4, 3) := by decide +kernel
theorem d_RM_areGood_81 : decode b_RM_areGood 81 = .ok (.iconst 0, 1) := by decide +kernel
theorem d_RM_areGood_82 : decode b_RM_areGood 82 = .ok (.iadd, 1) := by decide +kernel
theorem d_RM_areGood_83 : decode b_RM_areGood 83 = .ok (.istore 4, 2) := by decide +kernel
theorem d_RM_areGood_85 : decode b_RM_areGood 85 = .ok (.iinc 5 1, 3) := by decide +kernel
theorem d_RM_areGood_88 : decode b_RM_areGood 88 = .ok (.goto (-34), 3) := by decide +kernel
theorem d_RM_areGood_91 : decode b_RM_areGood 91 = .ok (.iload 4, 2) := by decide +kernel
theorem d_RM_areGood_93 : decode b_RM_areGood 93 = .ok (.aload_n 0, 1) := by decide +kernel
theorem d_RM_areGood_94 : decode b_RM_areGood 94 = .ok (.getfield 17, 3) := by decide +kernel
theorem d_RM_areGood_97 : decode b_RM_areGood 97 = .ok (.if_icmp .le 5, 3) := by decide +kernel
theorem d_RM_areGood_100 : decode b_RM_areGood 100 = .ok (.iconst 0, 1) := by decide +kernel
theorem d_RM_areGood_101 : decode b_RM_areGood 101 = .ok (.ireturn, 1) := by decide +kernel
theorem d_RM_areGood_102 : decode b_RM_areGood 102 = .ok (.iinc 3 1, 3) := by decide +kernel
theorem d_RM_areGood_105 : decode b_RM_areGood 105 = .ok (.goto (-65), 3) := by decide +kernel
theorem d_RM_areGood_108 : decode b_RM_areGood 108 = .ok (.iconst 0, 1) := by decide +kernel
theorem d_RM_areGood_109 : decode b_RM_areGood 109 = .ok (.istore_n 3, 1) := by decide +kernel
theorem d_RM_areGood_110 : decode b_RM_areGood 110 = .ok (.iload_n 3, 1) := by decide +kernel
theorem d_RM_areGood_111 : decode b_RM_areGood 111 = .ok (.iload_n 1, 1) := by decide +kernel
theorem d_RM_areGood_112 : decode b_RM_areGood 112 = .ok (.if_icmp .ge 35, 3) := by decide +kernel
theorem d_RM_areGood_115 : decode b_RM_areGood 115 = .ok (.aload_n 0, 1) := by decide +kernel
theorem d_RM_areGood_116 : decode b_RM_areGood 116 = .ok (.getfield 7, 3) := by decide +kernel
theorem d_RM_areGood_119 : decode b_RM_areGood 119 = .ok (.bipush 6, 2) := by decide +kernel
theorem d_RM_areGood_121 : decode b_RM_areGood 121 = .ok (.iload_n 3, 1) := by decide +kernel
theorem d_RM_areGood_122 : decode b_RM_areGood 122 = .ok (.imul, 1) := by decide +kernel
theorem d_RM_areGood_123 : decode b_RM_areGood 123 = .ok (.iload_n 2, 1) := by decide +kernel
theorem d_RM_areGood_124 : decode b_RM_areGood 124 = .ok (.iadd, 1) := by decide +kernel
theorem d_RM_areGood_125 : decode b_RM_areGood 125 = .ok (.baload, 1) := by decide +kernel
theorem d_RM_areGood_126 : decode b_RM_areGood 126 = .ok (.ifCond .ne 15, 3) := by decide +kernel
theorem d_RM_areGood_129 : decode b_RM_areGood 129 = .ok (.aload_n 0, 1) := by decide +kernel
theorem d_RM_areGood_130 : decode b_RM_areGood 130 = .ok (.iload_n 1, 1) := by decide +kernel
theorem d_RM_areGood_131 : decode b_RM_areGood 131 = .ok (.iload_n 3, 1) := by decide +kernel
theorem d_RM_areGood_132 : decode b_RM_areGood 132 = .ok (.iload_n 2, 1) := by decide +kernel
theorem d_RM_areGood_133 : decode b_RM_areGood 133 = .ok (.invokevirtual 71, 3) := by decide +kernel
theorem d_RM_areGood_136 : decode b_RM_areGood 136 = .ok (.ifCond .eq 5, 3) := by decide +kernel
theorem d_RM_areGood_139 : decode b_RM_areGood 139 = .ok (.iconst 0, 1) := by decide +kernel
theorem d_RM_areGood_140 : decode b_RM_areGood 140 = .ok (.ireturn, 1) := by decide +kernel
theorem d_RM_areGood_141 : decode b_RM_areGood 141 = .ok (.iinc 3 1, 3) := by decide +kernel
theorem d_RM_areGood_144 : decode b_RM_areGood 144 = .ok (.goto (-34), 3) := by decide +kernel
theorem d_RM_areGood_147 : decode b_RM_areGood 147 = .ok (.iinc 2 1, 3) := by decide +kernel
theorem d_RM_areGood_150 : decode b_RM_areGood 150 = .ok (.goto (-120), 3) := by decide +kernel
theorem d_RM_areGood_153 : decode b_RM_areGood 153 = .ok (.iconst 1, 1) := by decide +kernel
theorem d_RM_areGood_154 : decode b_RM_areGood 154 = .ok (.ireturn, 1) := by decide +kernel
theorem d_RM_isAlike_0 : decode b_RM_isAlike 0 = .ok (.iconst 1, 1) := by decide +kernel
theorem d_RM_isAlike_1 : decode b_RM_isAlike 1 = .ok (.istore_n 3, 1) := by decide +kernel
theorem d_RM_isAlike_2 : decode b_RM_isAlike 2 = .ok (.iconst 0, 1) := by decide +kernel
theorem d_RM_isAlike_3 : decode b_RM_isAlike 3 = .ok (.istore 4, 2) := by decide +kernel
theorem d_RM_isAlike_5 : decode b_RM_isAlike 5 = .ok (.iload 4, 2) := by decide +kernel
theorem d_RM_isAlike_7 : decode b_RM_isAlike 7 = .ok (.aload_n 0, 1) := by decide +kernel
theorem d_RM_isAlike_8 : decode b_RM_isAlike 8 = .ok (.getfield 30, 3) := by decide +kernel
theorem d_RM_isAlike_11 : decode b_RM_isAlike 11 = .ok (.if_icmp .ge 50, 3) := by decide +kernel
theorem d_RM_isAlike_14 : decode b_RM_isAlike 14 = .ok (.iload_n 3, 1) := by decide +kernel
theorem d_RM_isAlike_15 : decode b_RM_isAlike 15 = .ok (.ifCond .eq 38, 3) := by decide +kernel
theorem d_RM_isAlike_18 : decode b_RM_isAlike 18 = .ok (.aload_n 0, 1) := by decide +kernel
theorem d_RM_isAlike_19 : decode b_RM_isAlike 19 = .ok (.getfield 23, 3) := by decide +kernel
theorem d_RM_isAlike_22 : decode b_RM_isAlike 22 = .ok (.aload_n 0, 1) := by decide +kernel
theorem d_RM_isAlike_23 : decode b_RM_isAlike 23 = .ok (.getfield 30, 3) := by decide +kernel
theorem d_RM_isAlike_26 : decode b_RM_isAlike 26 = .ok (.iload_n 1, 1) := by decide +kernel
theorem d_RM_isAlike_27 : decode b_RM_isAlike 27 = .ok (.imul, 1) := by decide +kernel
theorem d_RM_isAlike_28 : decode b_RM_isAlike 28 = .ok (.iload 4, 2) := by decide +kernel
theorem d_RM_isAlike_30 : decode b_RM_isAlike 30 = .ok (.iadd, 1) := by decide +kernel
theorem d_RM_isAlike_31 : decode b_RM_isAlike 31 = .ok (.iaload, 1) := by decide +kernel
theorem d_RM_isAlike_32 : decode b_RM_isAlike 32 = .ok (.aload_n 0, 1) := by decide +kernel
theorem d_RM_isAlike_33 : decode b_RM_isAlike 33 = .ok (.getfield 23, 3) := by decide +kernel
theorem d_RM_isAlike_36 : decode b_RM_isAlike 36 = .ok (.aload_n 0, 1) := by decide +kernel
theorem d_RM_isAlike_37 : decode b_RM_isAlike 37 = .ok (.getfield 30, 3) := by decide +kernel
theorem d_RM_isAlike_40 : decode b_RM_isAlike 40 = .ok (.iload_n 2, 1) := by decide +kernel
theorem d_RM_isAlike_41 : decode b_RM_isAlike 41 = .ok (.imul, 1) := by decide +kernel
theorem d_RM_isAlike_42 : decode b_RM_isAlike 42 = .ok (.iload 4, 2) := by decide +kernel
theorem d_RM_isAlike_44 : decode b_RM_isAlike 44 = .ok (.iadd, 1) := by decide +kernel
theorem d_RM_isAlike_45 : decode b_RM_isAlike 45 = .ok (.iaload, 1) := by decide +kernel
theorem d_RM_isAlike_46 : decode b_RM_isAlike 46 = .ok (.if_icmp .ne 7, 3) := by decide +kernel
theorem d_RM_isAlike_49 : decode b_RM_isAlike 49 = .ok (.iconst 1, 1) := by decide +kernel
theorem d_RM_isAlike_50 : decode b_RM_isAlike 50 = .ok (.goto 4, 3) := by decide +kernel
theorem d_RM_isAlike_53 : decode b_RM_isAlike 53 = .ok (.iconst 0, 1) := by decide +kernel
theorem d_RM_isAlike_54 : decode b_RM_isAlike 54 = .ok (.istore_n 3, 1) := by decide +kernel
theorem d_RM_isAlike_55 : decode b_RM_isAlike 55 = .ok (.iinc 4 1, 3) := by decide +kernel
theorem d_RM_isAlike_58 : decode b_RM_isAlike 58 = .ok (.goto (-53), 3) := by decide +kernel
theorem d_RM_isAlike_61 : decode b_RM_isAlike 61 = .ok (.iload_n 3, 1) := by decide +kernel
theorem d_RM_isAlike_62 : decode b_RM_isAlike 62 = .ok (.ireturn, 1) := by decide +kernel
theorem d_RM_isHeld_0 : decode b_RM_isHeld 0 = .ok (.iconst 0, 1) := by decide +kernel
theorem d_RM_isHeld_1 : decode b_RM_isHeld 1 = .ok (.istore 5, 2) := by decide +kernel
theorem d_RM_isHeld_3 : decode b_RM_isHeld 3 = .ok (.iconst 0, 1) := by decide +kernel
theorem d_RM_isHeld_4 : decode b_RM_isHeld 4 = .ok (.istore 6, 2) := by decide +kernel
theorem d_RM_isHeld_6 : decode b_RM_isHeld 6 = .ok (.iload 6, 2) := by decide +kernel
theorem d_RM_isHeld_8 : decode b_RM_isHeld 8 = .ok (.iload_n 1, 1) := by decide +kernel
theorem d_RM_isHeld_9 : decode b_RM_isHeld 9 = .ok (.if_icmp .ge 55, 3) := by decide +kernel
theorem d_RM_isHeld_12 : decode b_RM_isHeld 12 = .ok (.iload 5, 2) := by decide +kernel
theorem d_RM_isHeld_14 : decode b_RM_isHeld 14 = .ok (.ifCond .ne 37, 3) := by decide +kernel
theorem d_RM_isHeld_17 : decode b_RM_isHeld 17 = .ok (.aload_n 0, 1) := by decide +kernel
theorem d_RM_isHeld_18 : decode b_RM_isHeld 18 = .ok (.getfield 7, 3) := by decide +kernel
theorem d_RM_isHeld_21 : decode b_RM_isHeld 21 = .ok (.bipush 6, 2) := by decide +kernel
theorem d_RM_isHeld_23 : decode b_RM_isHeld 23 = .ok (.iload 6, 2) := by decide +kernel
theorem d_RM_isHeld_25 : decode b_RM_isHeld 25 = .ok (.imul, 1) := by decide +kernel
theorem d_RM_isHeld_26 : decode b_RM_isHeld 26 = .ok (.iload_n 2, 1) := by decide +kernel
theorem d_RM_isHeld_27 : decode b_RM_isHeld 27 = .ok (.iadd, 1) := by decide +kernel
theorem d_RM_isHeld_28 : decode b_RM_isHeld 28 = .ok (.baload, 1) := by decide +kernel
theorem d_RM_isHeld_29 : decode b_RM_isHeld 29 = .ok (.ifCond .eq 26, 3) := by decide +kernel
theorem d_RM_isHeld_32 : decode b_RM_isHeld 32 = .ok (.aload_n 0, 1) := by decide +kernel
theorem d_RM_isHeld_33 : decode b_RM_isHeld 33 = .ok (.getfield 23, 3) := by decide +kernel
theorem d_RM_isHeld_36 : decode b_RM_isHeld 36 = .ok (.aload_n 0, 1) := by decide +kernel
theorem d_RM_isHeld_37 : decode b_RM_isHeld 37 = .ok (.getfield 30, 3) := by decide +kernel
theorem d_RM_isHeld_40 : decode b_RM_isHeld 40 = .ok (.iload 6, 2) := by decide +kernel
theorem d_RM_isHeld_42 : decode b_RM_isHeld 42 = .ok (.imul, 1) := by decide +kernel
theorem d_RM_isHeld_43 : decode b_RM_isHeld 43 = .ok (.iload_n 3, 1) := by decide +kernel
theorem d_RM_isHeld_44 : decode b_RM_isHeld 44 = .ok (.iadd, 1) := by decide +kernel
theorem d_RM_isHeld_45 : decode b_RM_isHeld 45 = .ok (.iaload, 1) := by decide +kernel
theorem d_RM_isHeld_46 : decode b_RM_isHeld 46 = .ok (.iload 4, 2) := by decide +kernel
theorem d_RM_isHeld_48 : decode b_RM_isHeld 48 = .ok (.if_icmp .ne 7, 3) := by decide +kernel
theorem d_RM_isHeld_51 : decode b_RM_isHeld 51 = .ok (.iconst 1, 1) := by decide +kernel
theorem d_RM_isHeld_52 : decode b_RM_isHeld 52 = .ok (.goto 4, 3) := by decide +kernel
theorem d_RM_isHeld_55 : decode b_RM_isHeld 55 = .ok (.iconst 0, 1) := by decide +kernel
theorem d_RM_isHeld_56 : decode b_RM_isHeld 56 = .ok (.istore 5, 2) := by decide +kernel
theorem d_RM_isHeld_58 : decode b_RM_isHeld 58 = .ok (.iinc 6 1, 3) := by decide +kernel
theorem d_RM_isHeld_61 : decode b_RM_isHeld 61 = .ok (.goto (-55), 3) := by decide +kernel
theorem d_RM_isHeld_64 : decode b_RM_isHeld 64 = .ok (.iload 5, 2) := by decide +kernel
theorem d_RM_isHeld_66 : decode b_RM_isHeld 66 = .ok (.ireturn, 1) := by decide +kernel
theorem d_RM_isFitting_0 : decode b_RM_isFitting 0 = .ok (.iconst 1, 1) := by decide +kernel
theorem d_RM_isFitting_1 : decode b_RM_isFitting 1 = .ok (.istore 4, 2) := by decide +kernel
theorem d_RM_isFitting_3 : decode b_RM_isFitting 3 = .ok (.iconst 0, 1) := by decide +kernel
theorem d_RM_isFitting_4 : decode b_RM_isFitting 4 = .ok (.istore 5, 2) := by decide +kernel
theorem d_RM_isFitting_6 : decode b_RM_isFitting 6 = .ok (.iload 5, 2) := by decide +kernel
theorem d_RM_isFitting_8 : decode b_RM_isFitting 8 = .ok (.aload_n 0, 1) := by decide +kernel
theorem d_RM_isFitting_9 : decode b_RM_isFitting 9 = .ok (.getfield 30, 3) := by decide +kernel
theorem d_RM_isFitting_12 : decode b_RM_isFitting 12 = .ok (.if_icmp .ge 46, 3) := by decide +kernel
theorem d_RM_isFitting_15 : decode b_RM_isFitting 15 = .ok (.iload 4, 2) := by decide +kernel
theorem d_RM_isFitting_17 : decode b_RM_isFitting 17 = .ok (.ifCond .eq 32, 3) := by decide +kernel
theorem d_RM_isFitting_20 : decode b_RM_isFitting 20 = .ok (.aload_n 0, 1) := by decide +kernel
theorem d_RM_isFitting_21 : decode b_RM_isFitting 21 = .ok (.iload_n 1, 1) := by decide +kernel
theorem d_RM_isFitting_22 : decode b_RM_isFitting 22 = .ok (.iload_n 3, 1) := by decide +kernel
theorem d_RM_isFitting_23 : decode b_RM_isFitting 23 = .ok (.iload 5, 2) := by decide +kernel
theorem d_RM_isFitting_25 : decode b_RM_isFitting 25 = .ok (.aload_n 0, 1) := by decide +kernel
theorem d_RM_isFitting_26 : decode b_RM_isFitting 26 = .ok (.getfield 23, 3) := by decide +kernel
theorem d_RM_isFitting_29 : decode b_RM_isFitting 29 = .ok (.aload_n 0, 1) := by decide +kernel
theorem d_RM_isFitting_30 : decode b_RM_isFitting 30 = .ok (.getfield 30, 3) := by decide +kernel
theorem d_RM_isFitting_33 : decode b_RM_isFitting 33 = .ok (.iload_n 2, 1) := by decide +kernel
theorem d_RM_isFitting_34 : decode b_RM_isFitting 34 = .ok (.imul, 1) := by decide +kernel
theorem d_RM_isFitting_35 : decode b_RM_isFitting 35 = .ok (.iload 5, 2) := by decide +kernel
theorem d_RM_isFitting_37 : decode b_RM_isFitting 37 = .ok (.iadd, 1) := by decide +kernel
theorem d_RM_isFitting_38 : decode b_RM_isFitting 38 = .ok (.iaload, 1) := by decide +kernel
theorem d_RM_isFitting_39 : decode b_RM_isFitting 39 = .ok (.invokevirtual 63, 3) := by decide +kernel
theorem d_RM_isFitting_42 : decode b_RM_isFitting 42 = .ok (.ifCond .eq 7, 3) := by decide +kernel
theorem d_RM_isFitting_45 : decode b_RM_isFitting 45 = .ok (.iconst 1, 1) := by decide +kernel
theorem d_RM_isFitting_46 : decode b_RM_isFitting 46 = .ok (.goto 4, 3) := by decide +kernel
theorem d_RM_isFitting_49 : decode b_RM_isFitting 49 = .ok (.iconst 0, 1) := by decide +kernel
theorem d_RM_isFitting_50 : decode b_RM_isFitting 50 = .ok (.istore 4, 2) := by decide +kernel
theorem d_RM_isFitting_52 : decode b_RM_isFitting 52 = .ok (.iinc 5 1, 3) := by decide +kernel
theorem d_RM_isFitting_55 : decode b_RM_isFitting 55 = .ok (.goto (-49), 3) := by decide +kernel
theorem d_RM_isFitting_58 : decode b_RM_isFitting 58 = .ok (.iload 4, 2) := by decide +kernel
theorem d_RM_isFitting_60 : decode b_RM_isFitting 60 = .ok (.ireturn, 1) := by decide +kernel
theorem d_RM_tries_0 : decode b_RM_tries 0 = .ok (.aload_n 0, 1) := by decide +kernel
theorem d_RM_tries_1 : decode b_RM_tries 1 = .ok (.iconst 0, 1) := by decide +kernel
theorem d_RM_tries_2 : decode b_RM_tries 2 = .ok (.putfield 36, 3) := by decide +kernel
theorem d_RM_tries_5 : decode b_RM_tries 5 = .ok (.aload_n 0, 1) := by decide +kernel
theorem d_RM_tries_6 : decode b_RM_tries 6 = .ok (.getfield 75, 3) := by decide +kernel
theorem d_RM_tries_9 : decode b_RM_tries 9 = .ok (.ireturn, 1) := by decide +kernel
theorem d_RM_cut_0 : decode b_RM_cut 0 = .ok (.aload_n 0, 1) := by decide +kernel
theorem d_RM_cut_1 : decode b_RM_cut 1 = .ok (.aload_n 0, 1) := by decide +kernel
theorem d_RM_cut_2 : decode b_RM_cut 2 = .ok (.iload_n 1, 1) := by decide +kernel
theorem d_RM_cut_3 : decode b_RM_cut 3 = .ok (.invokevirtual 49, 3) := by decide +kernel
theorem d_RM_cut_6 : decode b_RM_cut 6 = .ok (.ifCond .ne 11, 3) := by decide +kernel
theorem d_RM_cut_9 : decode b_RM_cut 9 = .ok (.aload_n 0, 1) := by decide +kernel
theorem d_RM_cut_10 : decode b_RM_cut 10 = .ok (.iload_n 2, 1) := by decide +kernel
theorem d_RM_cut_11 : decode b_RM_cut 11 = .ok (.invokevirtual 84, 3) := by decide +kernel
theorem d_RM_cut_14 : decode b_RM_cut 14 = .ok (.ifCond .eq 7, 3) := by decide +kernel
theorem d_RM_cut_17 : decode b_RM_cut 17 = .ok (.iconst 1, 1) := by decide +kernel
theorem d_RM_cut_18 : decode b_RM_cut 18 = .ok (.goto 4, 3) := by decide +kernel
theorem d_RM_cut_21 : decode b_RM_cut 21 = .ok (.iconst 0, 1) := by decide +kernel
theorem d_RM_cut_22 : decode b_RM_cut 22 = .ok (.putfield 36, 3) := by decide +kernel
theorem d_RM_cut_25 : decode b_RM_cut 25 = .ok (.aload_n 0, 1) := by decide +kernel
theorem d_RM_cut_26 : decode b_RM_cut 26 = .ok (.getfield 36, 3) := by decide +kernel
theorem d_RM_cut_29 : decode b_RM_cut 29 = .ok (.ifCond .le 7, 3) := by decide +kernel
theorem d_RM_cut_32 : decode b_RM_cut 32 = .ok (.iconst 0, 1) := by decide +kernel
theorem d_RM_cut_33 : decode b_RM_cut 33 = .ok (.goto 27, 3) := by decide +kernel
theorem d_RM_cut_36 : decode b_RM_cut 36 = .ok (.aload_n 0, 1) := by decide +kernel
theorem d_RM_cut_37 : decode b_RM_cut 37 = .ok (.getfield 45, 3) := by decide +kernel
theorem d_RM_cut_40 : decode b_RM_cut 40 = .ok (.ifCond .eq 19, 3) := by decide +kernel
theorem d_RM_cut_43 : decode b_RM_cut 43 = .ok (.aload_n 0, 1) := by decide +kernel
theorem d_RM_cut_44 : decode b_RM_cut 44 = .ok (.getfield 23, 3) := by decide +kernel
theorem d_RM_cut_47 : decode b_RM_cut 47 = .ok (.aload_n 0, 1) := by decide +kernel
theorem d_RM_cut_48 : decode b_RM_cut 48 = .ok (.getfield 30, 3) := by decide +kernel
theorem d_RM_cut_51 : decode b_RM_cut 51 = .ok (.iload_n 1, 1) := by decide +kernel
theorem d_RM_cut_52 : decode b_RM_cut 52 = .ok (.imul, 1) := by decide +kernel
theorem d_RM_cut_53 : decode b_RM_cut 53 = .ok (.iload_n 2, 1) := by decide +kernel
theorem d_RM_cut_54 : decode b_RM_cut 54 = .ok (.iadd, 1) := by decide +kernel
theorem d_RM_cut_55 : decode b_RM_cut 55 = .ok (.iaload, 1) := by decide +kernel
theorem d_RM_cut_56 : decode b_RM_cut 56 = .ok (.goto 4, 3) := by decide +kernel
theorem d_RM_cut_59 : decode b_RM_cut 59 = .ok (.iconst (-1), 1) := by decide +kernel
theorem d_RM_cut_60 : decode b_RM_cut 60 = .ok (.ireturn, 1) := by decide +kernel
theorem d_RM_noPin_0 : decode b_RM_noPin 0 = .ok (.iload_n 1, 1) := by decide +kernel
theorem d_RM_noPin_1 : decode b_RM_noPin 1 = .ok (.ifCond .lt 11, 3) := by decide +kernel
theorem d_RM_noPin_4 : decode b_RM_noPin 4 = .ok (.iload_n 1, 1) := by decide +kernel
theorem d_RM_noPin_5 : decode b_RM_noPin 5 = .ok (.aload_n 0, 1) := by decide +kernel
theorem d_RM_noPin_6 : decode b_RM_noPin 6 = .ok (.getfield 30, 3) := by decide +kernel
theorem d_RM_noPin_9 : decode b_RM_noPin 9 = .ok (.if_icmp .lt 7, 3) := by decide +kernel
theorem d_RM_noPin_12 : decode b_RM_noPin 12 = .ok (.iconst 1, 1) := by decide +kernel
theorem d_RM_noPin_13 : decode b_RM_noPin 13 = .ok (.goto 4, 3) := by decide +kernel
theorem d_RM_noPin_16 : decode b_RM_noPin 16 = .ok (.iconst 0, 1) := by decide +kernel
theorem d_RM_noPin_17 : decode b_RM_noPin 17 = .ok (.ireturn, 1) := by decide +kernel
theorem d_RM_holds_0 : decode b_RM_holds 0 = .ok (.aload_n 0, 1) := by decide +kernel
theorem d_RM_holds_1 : decode b_RM_holds 1 = .ok (.aload_n 0, 1) := by decide +kernel
theorem d_RM_holds_2 : decode b_RM_holds 2 = .ok (.iload_n 1, 1) := by decide +kernel
theorem d_RM_holds_3 : decode b_RM_holds 3 = .ok (.invokevirtual 53, 3) := by decide +kernel
theorem d_RM_holds_6 : decode b_RM_holds 6 = .ok (.ifCond .ne 19, 3) := by decide +kernel
theorem d_RM_holds_9 : decode b_RM_holds 9 = .ok (.aload_n 0, 1) := by decide +kernel
theorem d_RM_holds_10 : decode b_RM_holds 10 = .ok (.iload_n 2, 1) := by decide +kernel
theorem d_RM_holds_11 : decode b_RM_holds 11 = .ok (.invokevirtual 84, 3) := by decide +kernel
theorem d_RM_holds_14 : decode b_RM_holds 14 = .ok (.ifCond .ne 11, 3) := by decide +kernel
theorem d_RM_holds_17 : decode b_RM_holds 17 = .ok (.aload_n 0, 1) := by decide +kernel
theorem d_RM_holds_18 : decode b_RM_holds 18 = .ok (.iload_n 3, 1) := by decide +kernel
theorem d_RM_holds_19 : decode b_RM_holds 19 = .ok (.invokevirtual 60, 3) := by decide +kernel
theorem d_RM_holds_22 : decode b_RM_holds 22 = .ok (.ifCond .eq 7, 3) := by decide +kernel
theorem d_RM_holds_25 : decode b_RM_holds 25 = .ok (.iconst 1, 1) := by decide +kernel
theorem d_RM_holds_26 : decode b_RM_holds 26 = .ok (.goto 4, 3) := by decide +kernel
theorem d_RM_holds_29 : decode b_RM_holds 29 = .ok (.iconst 0, 1) := by decide +kernel
theorem d_RM_holds_30 : decode b_RM_holds 30 = .ok (.putfield 36, 3) := by decide +kernel
theorem d_RM_holds_33 : decode b_RM_holds 33 = .ok (.aload_n 0, 1) := by decide +kernel
theorem d_RM_holds_34 : decode b_RM_holds 34 = .ok (.getfield 36, 3) := by decide +kernel
theorem d_RM_holds_37 : decode b_RM_holds 37 = .ok (.ifCond .ne 28, 3) := by decide +kernel
theorem d_RM_holds_40 : decode b_RM_holds 40 = .ok (.aload_n 0, 1) := by decide +kernel
theorem d_RM_holds_41 : decode b_RM_holds 41 = .ok (.getfield 45, 3) := by decide +kernel
theorem d_RM_holds_44 : decode b_RM_holds 44 = .ok (.ifCond .eq 21, 3) := by decide +kernel
theorem d_RM_holds_47 : decode b_RM_holds 47 = .ok (.aload_n 0, 1) := by decide +kernel
theorem d_RM_holds_48 : decode b_RM_holds 48 = .ok (.aload_n 0, 1) := by decide +kernel
theorem d_RM_holds_49 : decode b_RM_holds 49 = .ok (.getfield 39, 3) := by decide +kernel
theorem d_RM_holds_52 : decode b_RM_holds 52 = .ok (.iload_n 1, 1) := by decide +kernel
theorem d_RM_holds_53 : decode b_RM_holds 53 = .ok (.iload_n 2, 1) := by decide +kernel
theorem d_RM_holds_54 : decode b_RM_holds 54 = .ok (.iload_n 3, 1) := by decide +kernel
theorem d_RM_holds_55 : decode b_RM_holds 55 = .ok (.invokevirtual 63, 3) := by decide +kernel
theorem d_RM_holds_58 : decode b_RM_holds 58 = .ok (.ifCond .eq 7, 3) := by decide +kernel
theorem d_RM_holds_61 : decode b_RM_holds 61 = .ok (.iconst 1, 1) := by decide +kernel
theorem d_RM_holds_62 : decode b_RM_holds 62 = .ok (.goto 4, 3) := by decide +kernel
theorem d_RM_holds_65 : decode b_RM_holds 65 = .ok (.iconst 0, 1) := by decide +kernel
theorem d_RM_holds_66 : decode b_RM_holds 66 = .ok (.ireturn, 1) := by decide +kernel
theorem d_RM_fits_0 : decode b_RM_fits 0 = .ok (.aload_n 0, 1) := by decide +kernel
theorem d_RM_fits_1 : decode b_RM_fits 1 = .ok (.aload_n 0, 1) := by decide +kernel
theorem d_RM_fits_2 : decode b_RM_fits 2 = .ok (.iload_n 1, 1) := by decide +kernel
theorem d_RM_fits_3 : decode b_RM_fits 3 = .ok (.invokevirtual 49, 3) := by decide +kernel
theorem d_RM_fits_6 : decode b_RM_fits 6 = .ok (.ifCond .ne 11, 3) := by decide +kernel
theorem d_RM_fits_9 : decode b_RM_fits 9 = .ok (.aload_n 0, 1) := by decide +kernel
theorem d_RM_fits_10 : decode b_RM_fits 10 = .ok (.iload_n 2, 1) := by decide +kernel
theorem d_RM_fits_11 : decode b_RM_fits 11 = .ok (.invokevirtual 53, 3) := by decide +kernel
theorem d_RM_fits_14 : decode b_RM_fits 14 = .ok (.ifCond .eq 7, 3) := by decide +kernel
theorem d_RM_fits_17 : decode b_RM_fits 17 = .ok (.iconst 1, 1) := by decide +kernel
theorem d_RM_fits_18 : decode b_RM_fits 18 = .ok (.goto 4, 3) := by decide +kernel
theorem d_RM_fits_21 : decode b_RM_fits 21 = .ok (.iconst 0, 1) := by decide +kernel
theorem d_RM_fits_22 : decode b_RM_fits 22 = .ok (.putfield 36, 3) := by decide +kernel
theorem d_RM_fits_25 : decode b_RM_fits 25 = .ok (.aload_n 0, 1) := by decide +kernel
theorem d_RM_fits_26 : decode b_RM_fits 26 = .ok (.getfield 36, 3) := by decide +kernel
theorem d_RM_fits_29 : decode b_RM_fits 29 = .ok (.ifCond .ne 27, 3) := by decide +kernel
theorem d_RM_fits_32 : decode b_RM_fits 32 = .ok (.aload_n 0, 1) := by decide +kernel
theorem d_RM_fits_33 : decode b_RM_fits 33 = .ok (.getfield 45, 3) := by decide +kernel
theorem d_RM_fits_36 : decode b_RM_fits 36 = .ok (.ifCond .eq 20, 3) := by decide +kernel
theorem d_RM_fits_39 : decode b_RM_fits 39 = .ok (.aload_n 0, 1) := by decide +kernel
theorem d_RM_fits_40 : decode b_RM_fits 40 = .ok (.aload_n 0, 1) := by decide +kernel
theorem d_RM_fits_41 : decode b_RM_fits 41 = .ok (.getfield 39, 3) := by decide +kernel
theorem d_RM_fits_44 : decode b_RM_fits 44 = .ok (.iload_n 1, 1) := by decide +kernel
theorem d_RM_fits_45 : decode b_RM_fits 45 = .ok (.iload_n 2, 1) := by decide +kernel
theorem d_RM_fits_46 : decode b_RM_fits 46 = .ok (.invokevirtual 71, 3) := by decide +kernel
theorem d_RM_fits_49 : decode b_RM_fits 49 = .ok (.ifCond .eq 7, 3) := by decide +kernel
theorem d_RM_fits_52 : decode b_RM_fits 52 = .ok (.iconst 1, 1) := by decide +kernel
theorem d_RM_fits_53 : decode b_RM_fits 53 = .ok (.goto 4, 3) := by decide +kernel
theorem d_RM_fits_56 : decode b_RM_fits 56 = .ok (.iconst 0, 1) := by decide +kernel
theorem d_RM_fits_57 : decode b_RM_fits 57 = .ok (.ireturn, 1) := by decide +kernel
theorem d_RM_wrong_0 : decode b_RM_wrong 0 = .ok (.aload_n 0, 1) := by decide +kernel
theorem d_RM_wrong_1 : decode b_RM_wrong 1 = .ok (.iconst 0, 1) := by decide +kernel
theorem d_RM_wrong_2 : decode b_RM_wrong 2 = .ok (.putfield 36, 3) := by decide +kernel
theorem d_RM_wrong_5 : decode b_RM_wrong 5 = .ok (.aload_n 0, 1) := by decide +kernel
theorem d_RM_wrong_6 : decode b_RM_wrong 6 = .ok (.getfield 45, 3) := by decide +kernel
theorem d_RM_wrong_9 : decode b_RM_wrong 9 = .ok (.ifCond .ne 5, 3) := by decide +kernel
theorem d_RM_wrong_12 : decode b_RM_wrong 12 = .ok (.iconst (-1), 1) := by decide +kernel
theorem d_RM_wrong_13 : decode b_RM_wrong 13 = .ok (.ireturn, 1) := by decide +kernel
theorem d_RM_wrong_14 : decode b_RM_wrong 14 = .ok (.iconst 0, 1) := by decide +kernel
theorem d_RM_wrong_15 : decode b_RM_wrong 15 = .ok (.istore_n 1, 1) := by decide +kernel
theorem d_RM_wrong_16 : decode b_RM_wrong 16 = .ok (.iconst 0, 1) := by decide +kernel
theorem d_RM_wrong_17 : decode b_RM_wrong 17 = .ok (.istore_n 2, 1) := by decide +kernel
theorem d_RM_wrong_18 : decode b_RM_wrong 18 = .ok (.iload_n 2, 1) := by decide +kernel
theorem d_RM_wrong_19 : decode b_RM_wrong 19 = .ok (.aload_n 0, 1) := by decide +kernel
theorem d_RM_wrong_20 : decode b_RM_wrong 20 = .ok (.getfield 39, 3) := by decide +kernel
theorem d_RM_wrong_23 : decode b_RM_wrong 23 = .ok (.if_icmp .ge 57, 3) := by decide +kernel
theorem d_RM_wrong_26 : decode b_RM_wrong 26 = .ok (.iconst 0, 1) := by decide +kernel
theorem d_RM_wrong_27 : decode b_RM_wrong 27 = .ok (.istore_n 3, 1) := by decide +kernel
theorem d_RM_wrong_28 : decode b_RM_wrong 28 = .ok (.iload_n 3, 1) := by decide +kernel
theorem d_RM_wrong_29 : decode b_RM_wrong 29 = .ok (.aload_n 0, 1) := by decide +kernel
theorem d_RM_wrong_30 : decode b_RM_wrong 30 = .ok (.getfield 42, 3) := by decide +kernel
theorem d_RM_wrong_33 : decode b_RM_wrong 33 = .ok (.if_icmp .ge 41, 3) := by decide +kernel
theorem d_RM_wrong_36 : decode b_RM_wrong 36 = .ok (.iload_n 1, 1) := by decide +kernel
theorem d_RM_wrong_37 : decode b_RM_wrong 37 = .ok (.aload_n 0, 1) := by decide +kernel
theorem d_RM_wrong_38 : decode b_RM_wrong 38 = .ok (.aload_n 0, 1) := by decide +kernel
theorem d_RM_wrong_39 : decode b_RM_wrong 39 = .ok (.getfield 39, 3) := by decide +kernel
theorem d_RM_wrong_42 : decode b_RM_wrong 42 = .ok (.iload_n 2, 1) := by decide +kernel
theorem d_RM_wrong_43 : decode b_RM_wrong 43 = .ok (.iload_n 3, 1) := by decide +kernel
theorem d_RM_wrong_44 : decode b_RM_wrong 44 = .ok (.invokevirtual 71, 3) := by decide +kernel
theorem d_RM_wrong_47 : decode b_RM_wrong 47 = .ok (.aload_n 0, 1) := by decide +kernel
theorem d_RM_wrong_48 : decode b_RM_wrong 48 = .ok (.getfield 7, 3) := by decide +kernel
theorem d_RM_wrong_51 : decode b_RM_wrong 51 = .ok (.bipush 6, 2) := by decide +kernel
theorem d_RM_wrong_53 : decode b_RM_wrong 53 = .ok (.iload_n 2, 1) := by decide +kernel
theorem d_RM_wrong_54 : decode b_RM_wrong 54 = .ok (.imul, 1) := by decide +kernel
theorem d_RM_wrong_55 : decode b_RM_wrong 55 = .ok (.iload_n 3, 1) := by decide +kernel
theorem d_RM_wrong_56 : decode b_RM_wrong 56 = .ok (.iadd, 1) := by decide +kernel
theorem d_RM_wrong_57 : decode b_RM_wrong 57 = .ok (.baload, 1) := by decide +kernel
theorem d_RM_wrong_58 : decode b_RM_wrong 58 = .ok (.if_icmp .eq 7, 3) := by decide +kernel
theorem d_RM_wrong_61 : decode b_RM_wrong 61 = .ok (.iconst 1, 1) := by decide +kernel
theorem d_RM_wrong_62 : decode b_RM_wrong 62 = .ok (.goto 4, 3) := by decide +kernel
theorem d_RM_wrong_65 : decode b_RM_wrong 65 = .ok (.iconst 0, 1) := by decide +kernel
theorem d_RM_wrong_66 : decode b_RM_wrong 66 = .ok (.iadd, 1) := by decide +kernel
theorem d_RM_wrong_67 : decode b_RM_wrong 67 = .ok (.istore_n 1, 1) := by decide +kernel
theorem d_RM_wrong_68 : decode b_RM_wrong 68 = .ok (.iinc 3 1, 3) := by decide +kernel
theorem d_RM_wrong_71 : decode b_RM_wrong 71 = .ok (.goto (-43), 3) := by decide +kernel
theorem d_RM_wrong_74 : decode b_RM_wrong 74 = .ok (.iinc 2 1, 3) := by decide +kernel
theorem d_RM_wrong_77 : decode b_RM_wrong 77 = .ok (.goto (-59), 3) := by decide +kernel
theorem d_RM_wrong_80 : decode b_RM_wrong 80 = .ok (.iload_n 1, 1) := by decide +kernel
theorem d_RM_wrong_81 : decode b_RM_wrong 81 = .ok (.ireturn, 1) := by decide +kernel
theorem d_RM_left_0 : decode b_RM_left 0 = .ok (.aload_n 0, 1) := by decide +kernel
theorem d_RM_left_1 : decode b_RM_left 1 = .ok (.aload_n 0, 1) := by decide +kernel
theorem d_RM_left_2 : decode b_RM_left 2 = .ok (.getfield 45, 3) := by decide +kernel
theorem d_RM_left_5 : decode b_RM_left 5 = .ok (.ifCond .eq 7, 3) := by decide +kernel
theorem d_RM_left_8 : decode b_RM_left 8 = .ok (.iconst 0, 1) := by decide +kernel
theorem d_RM_left_9 : decode b_RM_left 9 = .ok (.goto 4, 3) := by decide +kernel
theorem d_RM_left_12 : decode b_RM_left 12 = .ok (.iconst 1, 1) := by decide +kernel
theorem d_RM_left_13 : decode b_RM_left 13 = .ok (.putfield 36, 3) := by decide +kernel
theorem d_RM_left_16 : decode b_RM_left 16 = .ok (.iconst 0, 1) := by decide +kernel
theorem d_RM_left_17 : decode b_RM_left 17 = .ok (.istore_n 1, 1) := by decide +kernel
theorem d_RM_left_18 : decode b_RM_left 18 = .ok (.iconst 0, 1) := by decide +kernel
theorem d_RM_left_19 : decode b_RM_left 19 = .ok (.istore_n 2, 1) := by decide +kernel
theorem d_RM_left_20 : decode b_RM_left 20 = .ok (.iload_n 2, 1) := by decide +kernel
theorem d_RM_left_21 : decode b_RM_left 21 = .ok (.aload_n 0, 1) := by decide +kernel
theorem d_RM_left_22 : decode b_RM_left 22 = .ok (.invokevirtual 87, 3) := by decide +kernel
theorem d_RM_left_25 : decode b_RM_left 25 = .ok (.if_icmp .ge 39, 3) := by decide +kernel
theorem d_RM_left_28 : decode b_RM_left 28 = .ok (.aload_n 0, 1) := by decide +kernel
theorem d_RM_left_29 : decode b_RM_left 29 = .ok (.getfield 45, 3) := by decide +kernel
theorem d_RM_left_32 : decode b_RM_left 32 = .ok (.ifCond .eq 32, 3) := by decide +kernel
theorem d_RM_left_35 : decode b_RM_left 35 = .ok (.iload_n 1, 1) := by decide +kernel
theorem d_RM_left_36 : decode b_RM_left 36 = .ok (.aload_n 0, 1) := by decide +kernel
theorem d_RM_left_37 : decode b_RM_left 37 = .ok (.iload_n 2, 1) := by decide +kernel
theorem d_RM_left_38 : decode b_RM_left 38 = .ok (.invokevirtual 91, 3) := by decide +kernel
theorem d_RM_left_41 : decode b_RM_left 41 = .ok (.ifCond .eq 14, 3) := by decide +kernel
theorem d_RM_left_44 : decode b_RM_left 44 = .ok (.aload_n 0, 1) := by decide +kernel
theorem d_RM_left_45 : decode b_RM_left 45 = .ok (.invokevirtual 94, 3) := by decide +kernel
theorem d_RM_left_48 : decode b_RM_left 48 = .ok (.ifCond .ne 7, 3) := by decide +kernel
theorem d_RM_left_51 : decode b_RM_left 51 = .ok (.iconst 1, 1) := by decide +kernel
theorem d_RM_left_52 : decode b_RM_left 52 = .ok (.goto 4, 3) := by decide +kernel
theorem d_RM_left_55 : decode b_RM_left 55 = .ok (.iconst 0, 1) := by decide +kernel
theorem d_RM_left_56 : decode b_RM_left 56 = .ok (.iadd, 1) := by decide +kernel
theorem d_RM_left_57 : decode b_RM_left 57 = .ok (.istore_n 1, 1) := by decide +kernel
theorem d_RM_left_58 : decode b_RM_left 58 = .ok (.iinc 2 1, 3) := by decide +kernel
theorem d_RM_left_61 : decode b_RM_left 61 = .ok (.goto (-41), 3) := by decide +kernel
theorem d_RM_left_64 : decode b_RM_left 64 = .ok (.iload_n 1, 1) := by decide +kernel
theorem d_RM_left_65 : decode b_RM_left 65 = .ok (.ireturn, 1) := by decide +kernel
theorem d_RM_rows_0 : decode b_RM_rows 0 = .ok (.iconst 1, 1) := by decide +kernel
theorem d_RM_rows_1 : decode b_RM_rows 1 = .ok (.istore_n 1, 1) := by decide +kernel
theorem d_RM_rows_2 : decode b_RM_rows 2 = .ok (.iconst 0, 1) := by decide +kernel
theorem d_RM_rows_3 : decode b_RM_rows 3 = .ok (.istore_n 2, 1) := by decide +kernel
theorem d_RM_rows_4 : decode b_RM_rows 4 = .ok (.iload_n 2, 1) := by decide +kernel
theorem d_RM_rows_5 : decode b_RM_rows 5 = .ok (.aload_n 0, 1) := by decide +kernel
theorem d_RM_rows_6 : decode b_RM_rows 6 = .ok (.getfield 30, 3) := by decide +kernel
theorem d_RM_rows_9 : decode b_RM_rows 9 = .ok (.if_icmp .ge 16, 3) := by decide +kernel
theorem d_RM_rows_12 : decode b_RM_rows 12 = .ok (.iload_n 1, 1) := by decide +kernel
theorem d_RM_rows_13 : decode b_RM_rows 13 = .ok (.aload_n 0, 1) := by decide +kernel
theorem d_RM_rows_14 : decode b_RM_rows 14 = .ok (.getfield 33, 3) := by decide +kernel
theorem d_RM_rows_17 : decode b_RM_rows 17 = .ok (.imul, 1) := by decide +kernel
theorem d_RM_rows_18 : decode b_RM_rows 18 = .ok (.istore_n 1, 1) := by decide +kernel
theorem d_RM_rows_19 : decode b_RM_rows 19 = .ok (.iinc 2 1, 3) := by decide +kernel
theorem d_RM_rows_22 : decode b_RM_rows 22 = .ok (.goto (-18), 3) := by decide +kernel
theorem d_RM_rows_25 : decode b_RM_rows 25 = .ok (.iload_n 1, 1) := by decide +kernel
theorem d_RM_rows_26 : decode b_RM_rows 26 = .ok (.ireturn, 1) := by decide +kernel
theorem d_RM_isFree_0 : decode b_RM_isFree 0 = .ok (.iload_n 1, 1) := by decide +kernel
theorem d_RM_isFree_1 : decode b_RM_isFree 1 = .ok (.istore_n 2, 1) := by decide +kernel
theorem d_RM_isFree_2 : decode b_RM_isFree 2 = .ok (.aload_n 0, 1) := by decide +kernel
theorem d_RM_isFree_3 : decode b_RM_isFree 3 = .ok (.getfield 30, 3) := by decide +kernel
theorem d_RM_isFree_6 : decode b_RM_isFree 6 = .ok (.iconst 1, 1) := by decide +kernel
theorem d_RM_isFree_7 : decode b_RM_isFree 7 = .ok (.isub, 1) := by decide +kernel
theorem d_RM_isFree_8 : decode b_RM_isFree 8 = .ok (.istore_n 3, 1) := by decide +kernel
theorem d_RM_isFree_9 : decode b_RM_isFree 9 = .ok (.iload_n 3, 1) := by decide +kernel
theorem d_RM_isFree_10 : decode b_RM_isFree 10 = .ok (.ifCond .lt 28, 3) := by decide +kernel
theorem d_RM_isFree_13 : decode b_RM_isFree 13 = .ok (.aload_n 0, 1) := by decide +kernel
theorem d_RM_isFree_14 : decode b_RM_isFree 14 = .ok (.getfield 27, 3) := by decide +kernel
theorem d_RM_isFree_17 : decode b_RM_isFree 17 = .ok (.iload_n 3, 1) := by decide +kernel
theorem d_RM_isFree_18 : decode b_RM_isFree 18 = .ok (.iload_n 2, 1) := by decide +kernel
theorem d_RM_isFree_19 : decode b_RM_isFree 19 = .ok (.aload_n 0, 1) := by decide +kernel
theorem d_RM_isFree_20 : decode b_RM_isFree 20 = .ok (.getfield 33, 3) := by decide +kernel
theorem d_RM_isFree_23 : decode b_RM_isFree 23 = .ok (.irem, 1) := by decide +kernel
theorem d_RM_isFree_24 : decode b_RM_isFree 24 = .ok (.iastore, 1) := by decide +kernel
theorem d_RM_isFree_25 : decode b_RM_isFree 25 = .ok (.iload_n 2, 1) := by decide +kernel
theorem d_RM_isFree_26 : decode b_RM_isFree 26 = .ok (.aload_n 0, 1) := by decide +kernel
theorem d_RM_isFree_27 : decode b_RM_isFree 27 = .ok (.getfield 33, 3) := by decide +kernel
theorem d_RM_isFree_30 : decode b_RM_isFree 30 = .ok (.idiv, 1) := by decide +kernel
theorem d_RM_isFree_31 : decode b_RM_isFree 31 = .ok (.istore_n 2, 1) := by decide +kernel
theorem d_RM_isFree_32 : decode b_RM_isFree 32 = .ok (.iinc 3 (-1), 3) := by decide +kernel
theorem d_RM_isFree_35 : decode b_RM_isFree 35 = .ok (.goto (-26), 3) := by decide +kernel
theorem d_RM_isFree_38 : decode b_RM_isFree 38 = .ok (.iconst 1, 1) := by decide +kernel
theorem d_RM_isFree_39 : decode b_RM_isFree 39 = .ok (.istore_n 3, 1) := by decide +kernel
theorem d_RM_isFree_40 : decode b_RM_isFree 40 = .ok (.iconst 1, 1) := by decide +kernel
theorem d_RM_isFree_41 : decode b_RM_isFree 41 = .ok (.istore 4, 2) := by decide +kernel
theorem d_RM_isFree_43 : decode b_RM_isFree 43 = .ok (.iload 4, 2) := by decide +kernel
theorem d_RM_isFree_45 : decode b_RM_isFree 45 = .ok (.aload_n 0, 1) := by decide +kernel
theorem d_RM_isFree_46 : decode b_RM_isFree 46 = .ok (.getfield 30, 3) := by decide +kernel
theorem d_RM_isFree_49 : decode b_RM_isFree 49 = .ok (.if_icmp .ge 42, 3) := by decide +kernel
theorem d_RM_isFree_52 : decode b_RM_isFree 52 = .ok (.iload_n 3, 1) := by decide +kernel
theorem d_RM_isFree_53 : decode b_RM_isFree 53 = .ok (.ifCond .eq 30, 3) := by decide +kernel
theorem d_RM_isFree_56 : decode b_RM_isFree 56 = .ok (.aload_n 0, 1) := by decide +kernel
theorem d_RM_isFree_57 : decode b_RM_isFree 57 = .ok (.aload_n 0, 1) := by decide +kernel
theorem d_RM_isFree_58 : decode b_RM_isFree 58 = .ok (.getfield 27, 3) := by decide +kernel
theorem d_RM_isFree_61 : decode b_RM_isFree 61 = .ok (.iload 4, 2) := by decide +kernel
theorem d_RM_isFree_63 : decode b_RM_isFree 63 = .ok (.iconst 1, 1) := by decide +kernel
theorem d_RM_isFree_64 : decode b_RM_isFree 64 = .ok (.isub, 1) := by decide +kernel
theorem d_RM_isFree_65 : decode b_RM_isFree 65 = .ok (.iaload, 1) := by decide +kernel
theorem d_RM_isFree_66 : decode b_RM_isFree 66 = .ok (.aload_n 0, 1) := by decide +kernel
theorem d_RM_isFree_67 : decode b_RM_isFree 67 = .ok (.getfield 27, 3) := by decide +kernel
theorem d_RM_isFree_70 : decode b_RM_isFree 70 = .ok (.iload 4, 2) := by decide +kernel
theorem d_RM_isFree_72 : decode b_RM_isFree 72 = .ok (.iaload, 1) := by decide +kernel
theorem d_RM_isFree_73 : decode b_RM_isFree 73 = .ok (.invokevirtual 78, 3) := by decide +kernel
theorem d_RM_isFree_76 : decode b_RM_isFree 76 = .ok (.ifCond .eq 7, 3) := by decide +kernel
theorem d_RM_isFree_79 : decode b_RM_isFree 79 = .ok (.iconst 1, 1) := by decide +kernel
theorem d_RM_isFree_80 : decode b_RM_isFree 80 = .ok (.goto 4, 3) := by decide +kernel
theorem d_RM_isFree_83 : decode b_RM_isFree 83 = .ok (.iconst 0, 1) := by decide +kernel
theorem d_RM_isFree_84 : decode b_RM_isFree 84 = .ok (.istore_n 3, 1) := by decide +kernel
theorem d_RM_isFree_85 : decode b_RM_isFree 85 = .ok (.iinc 4 1, 3) := by decide +kernel
theorem d_RM_isFree_88 : decode b_RM_isFree 88 = .ok (.goto (-45), 3) := by decide +kernel
theorem d_RM_isFree_91 : decode b_RM_isFree 91 = .ok (.iconst 0, 1) := by decide +kernel
theorem d_RM_isFree_92 : decode b_RM_isFree 92 = .ok (.istore 4, 2) := by decide +kernel
theorem d_RM_isFree_94 : decode b_RM_isFree 94 = .ok (.iload 4, 2) := by decide +kernel
theorem d_RM_isFree_96 : decode b_RM_isFree 96 = .ok (.aload_n 0, 1) := by decide +kernel
theorem d_RM_isFree_97 : decode b_RM_isFree 97 = .ok (.getfield 39, 3) := by decide +kernel
theorem d_RM_isFree_100 : decode b_RM_isFree 100 = .ok (.if_icmp .ge 82, 3) := by decide +kernel
theorem d_RM_isFree_103 : decode b_RM_isFree 103 = .ok (.iload_n 3, 1) := by decide +kernel
theorem d_RM_isFree_104 : decode b_RM_isFree 104 = .ok (.ifCond .eq 78, 3) := by decide +kernel
theorem d_RM_isFree_107 : decode b_RM_isFree 107 = .ok (.iconst 1, 1) := by decide +kernel
theorem d_RM_isFree_108 : decode b_RM_isFree 108 = .ok (.istore 5, 2) := by decide +kernel
theorem d_RM_isFree_110 : decode b_RM_isFree 110 = .ok (.iconst 0, 1) := by decide +kernel
theorem d_RM_isFree_111 : decode b_RM_isFree 111 = .ok (.istore 6, 2) := by decide +kernel
theorem d_RM_isFree_113 : decode b_RM_isFree 113 = .ok (.iload 6, 2) := by decide +kernel
theorem d_RM_isFree_115 : decode b_RM_isFree 115 = .ok (.aload_n 0, 1) := by decide +kernel
theorem d_RM_isFree_116 : decode b_RM_isFree 116 = .ok (.getfield 30, 3) := by decide +kernel
theorem d_RM_isFree_119 : decode b_RM_isFree 119 = .ok (.if_icmp .ge 46, 3) := by decide +kernel
theorem d_RM_isFree_122 : decode b_RM_isFree 122 = .ok (.iload 5, 2) := by decide +kernel
theorem d_RM_isFree_124 : decode b_RM_isFree 124 = .ok (.ifCond .eq 32, 3) := by decide +kernel
theorem d_RM_isFree_127 : decode b_RM_isFree 127 = .ok (.aload_n 0, 1) := by decide +kernel
theorem d_RM_isFree_128 : decode b_RM_isFree 128 = .ok (.getfield 23, 3) := by decide +kernel
theorem d_RM_isFree_131 : decode b_RM_isFree 131 = .ok (.aload_n 0, 1) := by decide +kernel
theorem d_RM_isFree_132 : decode b_RM_isFree 132 = .ok (.getfield 30, 3) := by decide +kernel
theorem d_RM_isFree_135 : decode b_RM_isFree 135 = .ok (.iload 4, 2) := by decide +kernel
theorem d_RM_isFree_137 : decode b_RM_isFree 137 = .ok (.imul, 1) := by decide +kernel
theorem d_RM_isFree_138 : decode b_RM_isFree 138 = .ok (.iload 6, 2) := by decide +kernel
theorem d_RM_isFree_140 : decode b_RM_isFree 140 = .ok (.iadd, 1) := by decide +kernel
theorem d_RM_isFree_141 : decode b_RM_isFree 141 = .ok (.iaload, 1) := by decide +kernel
theorem d_RM_isFree_142 : decode b_RM_isFree 142 = .ok (.aload_n 0, 1) := by decide +kernel
theorem d_RM_isFree_143 : decode b_RM_isFree 143 = .ok (.getfield 27, 3) := by decide +kernel
theorem d_RM_isFree_146 : decode b_RM_isFree 146 = .ok (.iload 6, 2) := by decide +kernel
theorem d_RM_isFree_148 : decode b_RM_isFree 148 = .ok (.iaload, 1) := by decide +kernel
theorem d_RM_isFree_149 : decode b_RM_isFree 149 = .ok (.if_icmp .ne 7, 3) := by decide +kernel
theorem d_RM_isFree_152 : decode b_RM_isFree 152 = .ok (.iconst 1, 1) := by decide +kernel
theorem d_RM_isFree_153 : decode b_RM_isFree 153 = .ok (.goto 4, 3) := by decide +kernel
theorem d_RM_isFree_156 : decode b_RM_isFree 156 = .ok (.iconst 0, 1) := by decide +kernel
theorem d_RM_isFree_157 : decode b_RM_isFree 157 = .ok (.istore 5, 2) := by decide +kernel
theorem d_RM_isFree_159 : decode b_RM_isFree 159 = .ok (.iinc 6 1, 3) := by decide +kernel
theorem d_RM_isFree_162 : decode b_RM_isFree 162 = .ok (.goto (-49), 3) := by decide +kernel
theorem d_RM_isFree_165 : decode b_RM_isFree 165 = .ok (.iload 5, 2) := by decide +kernel
theorem d_RM_isFree_167 : decode b_RM_isFree 167 = .ok (.ifCond .ne 7, 3) := by decide +kernel
theorem d_RM_isFree_170 : decode b_RM_isFree 170 = .ok (.iconst 1, 1) := by decide +kernel
theorem d_RM_isFree_171 : decode b_RM_isFree 171 = .ok (.goto 4, 3) := by decide +kernel
theorem d_RM_isFree_174 : decode b_RM_isFree 174 = .ok (.iconst 0, 1) := by decide +kernel
theorem d_RM_isFree_175 : decode b_RM_isFree 175 = .ok (.istore_n 3, 1) := by decide +kernel
theorem d_RM_isFree_176 : decode b_RM_isFree 176 = .ok (.iinc 4 1, 3) := by decide +kernel
theorem d_RM_isFree_179 : decode b_RM_isFree 179 = .ok (.goto (-85), 3) := by decide +kernel
theorem d_RM_isFree_182 : decode b_RM_isFree 182 = .ok (.iload_n 3, 1) := by decide +kernel
theorem d_RM_isFree_183 : decode b_RM_isFree 183 = .ok (.ireturn, 1) := by decide +kernel
theorem d_RM_doorsOfRow_0 : decode b_RM_doorsOfRow 0 = .ok (.iconst 0, 1) := by decide +kernel
theorem d_RM_doorsOfRow_1 : decode b_RM_doorsOfRow 1 = .ok (.istore_n 1, 1) := by decide +kernel
theorem d_RM_doorsOfRow_2 : decode b_RM_doorsOfRow 2 = .ok (.iconst 0, 1) := by decide +kernel
theorem d_RM_doorsOfRow_3 : decode b_RM_doorsOfRow 3 = .ok (.istore_n 2, 1) := by decide +kernel
theorem d_RM_doorsOfRow_4 : decode b_RM_doorsOfRow 4 = .ok (.iload_n 2, 1) := by decide +kernel
theorem d_RM_doorsOfRow_5 : decode b_RM_doorsOfRow 5 = .ok (.aload_n 0, 1) := by decide +kernel
theorem d_RM_doorsOfRow_6 : decode b_RM_doorsOfRow 6 = .ok (.getfield 42, 3) := by decide +kernel
theorem d_RM_doorsOfRow_9 : decode b_RM_doorsOfRow 9 = .ok (.if_icmp .ge 66, 3) := by decide +kernel
theorem d_RM_doorsOfRow_12 : decode b_RM_doorsOfRow 12 = .ok (.iconst 1, 1) := by decide +kernel
theorem d_RM_doorsOfRow_13 : decode b_RM_doorsOfRow 13 = .ok (.istore_n 3, 1) := by decide +kernel
theorem d_RM_doorsOfRow_14 : decode b_RM_doorsOfRow 14 = .ok (.iconst 0, 1) := by decide +kernel
theorem d_RM_doorsOfRow_15 : decode b_RM_doorsOfRow 15 = .ok (.istore 4, 2) := by decide +kernel
theorem d_RM_doorsOfRow_17 : decode b_RM_doorsOfRow 17 = .ok (.iload 4, 2) := by decide +kernel
theorem d_RM_doorsOfRow_19 : decode b_RM_doorsOfRow 19 = .ok (.aload_n 0, 1) := by decide +kernel
theorem d_RM_doorsOfRow_20 : decode b_RM_doorsOfRow 20 = .ok (.getfield 30, 3) := by decide +kernel
theorem d_RM_doorsOfRow_23 : decode b_RM_doorsOfRow 23 = .ok (.if_icmp .ge 32, 3) := by decide +kernel
theorem d_RM_doorsOfRow_26 : decode b_RM_doorsOfRow 26 = .ok (.iload_n 3, 1) := by decide +kernel
theorem d_RM_doorsOfRow_27 : decode b_RM_doorsOfRow 27 = .ok (.ifCond .eq 28, 3) := by decide +kernel
theorem d_RM_doorsOfRow_30 : decode b_RM_doorsOfRow 30 = .ok (.aload_n 0, 1) := by decide +kernel
theorem d_RM_doorsOfRow_31 : decode b_RM_doorsOfRow 31 = .ok (.aload_n 0, 1) := by decide +kernel
theorem d_RM_doorsOfRow_32 : decode b_RM_doorsOfRow 32 = .ok (.getfield 39, 3) := by decide +kernel
theorem d_RM_doorsOfRow_35 : decode b_RM_doorsOfRow 35 = .ok (.iload_n 2, 1) := by decide +kernel
theorem d_RM_doorsOfRow_36 : decode b_RM_doorsOfRow 36 = .ok (.iload 4, 2) := by decide +kernel
theorem d_RM_doorsOfRow_38 : decode b_RM_doorsOfRow 38 = .ok (.aload_n 0, 1) := by decide +kernel
theorem d_RM_doorsOfRow_39 : decode b_RM_doorsOfRow 39 = .ok (.getfield 27, 3) := by decide +kernel
theorem d_RM_doorsOfRow_42 : decode b_RM_doorsOfRow 42 = .ok (.iload 4, 2) := by decide +kernel
theorem d_RM_doorsOfRow_44 : decode b_RM_doorsOfRow 44 = .ok (.iaload, 1) := by decide +kernel
theorem d_RM_doorsOfRow_45 : decode b_RM_doorsOfRow 45 = .ok (.invokevirtual 63, 3) := by decide +kernel
theorem d_RM_doorsOfRow_48 : decode b_RM_doorsOfRow 48 = .ok (.istore_n 3, 1) := by decide +kernel
theorem d_RM_doorsOfRow_49 : decode b_RM_doorsOfRow 49 = .ok (.iinc 4 1, 3) := by decide +kernel
theorem d_RM_doorsOfRow_52 : decode b_RM_doorsOfRow 52 = .ok (.goto (-35), 3) := by decide +kernel
theorem d_RM_doorsOfRow_55 : decode b_RM_doorsOfRow 55 = .ok (.iload_n 1, 1) := by decide +kernel
theorem d_RM_doorsOfRow_56 : decode b_RM_doorsOfRow 56 = .ok (.iload_n 3, 1) := by decide +kernel
theorem d_RM_doorsOfRow_57 : decode b_RM_doorsOfRow 57 = .ok (.ifCond .eq 9, 3) := by decide +kernel
theorem d_RM_doorsOfRow_60 : decode b_RM_doorsOfRow 60 = .ok (.iconst 1, 1) := by decide +kernel
theorem d_RM_doorsOfRow_61 : decode b_RM_doorsOfRow 61 = .ok (.iload_n 2, 1) := by decide +kernel
theorem d_RM_doorsOfRow_62 : decode b_RM_doorsOfRow 62 = .ok (.ishl, 1) := by decide +kernel
theorem d_RM_doorsOfRow_63 : decode b_RM_doorsOfRow 63 = .ok (.goto 4, 3) := by decide +kernel
theorem d_RM_doorsOfRow_66 : decode b_RM_doorsOfRow 66 = .ok (.iconst 0, 1) := by decide +kernel
theorem d_RM_doorsOfRow_67 : decode b_RM_doorsOfRow 67 = .ok (.ior, 1) := by decide +kernel
theorem d_RM_doorsOfRow_68 : decode b_RM_doorsOfRow 68 = .ok (.istore_n 1, 1) := by decide +kernel
theorem d_RM_doorsOfRow_69 : decode b_RM_doorsOfRow 69 = .ok (.iinc 2 1, 3) := by decide +kernel
theorem d_RM_doorsOfRow_72 : decode b_RM_doorsOfRow 72 = .ok (.goto (-68), 3) := by decide +kernel
theorem d_RM_doorsOfRow_75 : decode b_RM_doorsOfRow 75 = .ok (.iload_n 1, 1) := by decide +kernel
theorem d_RM_doorsOfRow_76 : decode b_RM_doorsOfRow 76 = .ok (.ireturn, 1) := by decide +kernel
theorem d_RM_add_0 : decode b_RM_add 0 = .ok (.aload_n 0, 1) := by decide +kernel
theorem d_RM_add_1 : decode b_RM_add 1 = .ok (.iload_n 1, 1) := by decide +kernel
theorem d_RM_add_2 : decode b_RM_add 2 = .ok (.ifCond .lt 13, 3) := by decide +kernel
theorem d_RM_add_5 : decode b_RM_add 5 = .ok (.iload_n 1, 1) := by decide +kernel
theorem d_RM_add_6 : decode b_RM_add 6 = .ok (.iconst 1, 1) := by decide +kernel
theorem d_RM_add_7 : decode b_RM_add 7 = .ok (.aload_n 0, 1) := by decide +kernel
theorem d_RM_add_8 : decode b_RM_add 8 = .ok (.getfield 42, 3) := by decide +kernel
theorem d_RM_add_11 : decode b_RM_add 11 = .ok (.ishl, 1) := by decide +kernel
theorem d_RM_add_12 : decode b_RM_add 12 = .ok (.if_icmp .lt 7, 3) := by decide +kernel
theorem d_RM_add_15 : decode b_RM_add 15 = .ok (.iconst 1, 1) := by decide +kernel
theorem d_RM_add_16 : decode b_RM_add 16 = .ok (.goto 24, 3) := by decide +kernel
theorem d_RM_add_19 : decode b_RM_add 19 = .ok (.aload_n 0, 1) := by decide +kernel
theorem d_RM_add_20 : decode b_RM_add 20 = .ok (.getfield 45, 3) := by decide +kernel
theorem d_RM_add_23 : decode b_RM_add 23 = .ok (.ifCond .eq 12, 3) := by decide +kernel
theorem d_RM_add_26 : decode b_RM_add 26 = .ok (.aload_n 0, 1) := by decide +kernel
theorem d_RM_add_27 : decode b_RM_add 27 = .ok (.getfield 39, 3) := by decide +kernel
theorem d_RM_add_30 : decode b_RM_add 30 = .ok (.bipush 8, 2) := by decide +kernel
theorem d_RM_add_32 : decode b_RM_add 32 = .ok (.if_icmp .ne 7, 3) := by decide +kernel
theorem d_RM_add_35 : decode b_RM_add 35 = .ok (.iconst 2, 1) := by decide +kernel
theorem d_RM_add_36 : decode b_RM_add 36 = .ok (.goto 4, 3) := by decide +kernel
theorem d_RM_add_39 : decode b_RM_add 39 = .ok (.iconst 0, 1) := by decide +kernel
theorem d_RM_add_40 : decode b_RM_add 40 = .ok (.putfield 36, 3) := by decide +kernel
theorem d_RM_add_43 : decode b_RM_add 43 = .ok (.aload_n 0, 1) := by decide +kernel
theorem d_RM_add_44 : decode b_RM_add 44 = .ok (.getfield 36, 3) := by decide +kernel
theorem d_RM_add_47 : decode b_RM_add 47 = .ok (.ifCond .le 5, 3) := by decide +kernel
theorem d_RM_add_50 : decode b_RM_add 50 = .ok (.iconst 0, 1) := by decide +kernel
theorem d_RM_add_51 : decode b_RM_add 51 = .ok (.ireturn, 1) := by decide +kernel
theorem d_RM_add_52 : decode b_RM_add 52 = .ok (.aload_n 0, 1) := by decide +kernel
theorem d_RM_add_53 : decode b_RM_add 53 = .ok (.invokevirtual 87, 3) := by decide +kernel
theorem d_RM_add_56 : decode b_RM_add 56 = .ok (.istore_n 2, 1) := by decide +kernel
theorem d_RM_add_57 : decode b_RM_add 57 = .ok (.iconst 0, 1) := by decide +kernel
theorem d_RM_add_58 : decode b_RM_add 58 = .ok (.istore_n 3, 1) := by decide +kernel
theorem d_RM_add_59 : decode b_RM_add 59 = .ok (.iload_n 3, 1) := by decide +kernel
theorem d_RM_add_60 : decode b_RM_add 60 = .ok (.iload_n 2, 1) := by decide +kernel
theorem d_RM_add_61 : decode b_RM_add 61 = .ok (.if_icmp .ge 130, 3) := by decide +kernel
theorem d_RM_add_64 : decode b_RM_add 64 = .ok (.aload_n 0, 1) := by decide +kernel
theorem d_RM_add_65 : decode b_RM_add 65 = .ok (.iload_n 3, 1) := by decide +kernel
theorem d_RM_add_66 : decode b_RM_add 66 = .ok (.invokevirtual 91, 3) := by decide +kernel
theorem d_RM_add_69 : decode b_RM_add 69 = .ok (.ifCond .eq 116, 3) := by decide +kernel
theorem d_RM_add_72 : decode b_RM_add 72 = .ok (.aload_n 0, 1) := by decide +kernel
theorem d_RM_add_73 : decode b_RM_add 73 = .ok (.invokevirtual 94, 3) := by decide +kernel
theorem d_RM_add_76 : decode b_RM_add 76 = .ok (.iload_n 1, 1) := by decide +kernel
theorem d_RM_add_77 : decode b_RM_add 77 = .ok (.if_icmp .ne 108, 3) := by decide +kernel
theorem d_RM_add_80 : decode b_RM_add 80 = .ok (.iconst 0, 1) := by decide +kernel
theorem d_RM_add_81 : decode b_RM_add 81 = .ok (.istore 4, 2) := by decide +kernel
theorem d_RM_add_83 : decode b_RM_add 83 = .ok (.iload 4, 2) := by decide +kernel
theorem d_RM_add_85 : decode b_RM_add 85 = .ok (.aload_n 0, 1) := by decide +kernel
theorem d_RM_add_86 : decode b_RM_add 86 = .ok (.getfield 30, 3) := by decide +kernel
theorem d_RM_add_89 : decode b_RM_add 89 = .ok (.if_icmp .ge 33, 3) := by decide +kernel
theorem d_RM_add_92 : decode b_RM_add 92 = .ok (.aload_n 0, 1) := by decide +kernel
theorem d_RM_add_93 : decode b_RM_add 93 = .ok (.getfield 23, 3) := by decide +kernel
theorem d_RM_add_96 : decode b_RM_add 96 = .ok (.aload_n 0, 1) := by decide +kernel
theorem d_RM_add_97 : decode b_RM_add 97 = .ok (.getfield 30, 3) := by decide +kernel
theorem d_RM_add_100 : decode b_RM_add 100 = .ok (.aload_n 0, 1) := by decide +kernel
theorem d_RM_add_101 : decode b_RM_add 101 = .ok (.getfield 39, 3) := by decide +kernel
theorem d_RM_add_104 : decode b_RM_add 104 = .ok (.imul, 1) := by decide +kernel
theorem d_RM_add_105 : decode b_RM_add 105 = .ok (.iload 4, 2) := by decide +kernel
theorem d_RM_add_107 : decode b_RM_add 107 = .ok (.iadd, 1) := by decide +kernel
theorem d_RM_add_108 : decode b_RM_add 108 = .ok (.aload_n 0, 1) := by decide +kernel
theorem d_RM_add_109 : decode b_RM_add 109 = .ok (.getfield 27, 3) := by decide +kernel
theorem d_RM_add_112 : decode b_RM_add 112 = .ok (.iload 4, 2) := by decide +kernel
theorem d_RM_add_114 : decode b_RM_add 114 = .ok (.iaload, 1) := by decide +kernel
theorem d_RM_add_115 : decode b_RM_add 115 = .ok (.iastore, 1) := by decide +kernel
theorem d_RM_add_116 : decode b_RM_add 116 = .ok (.iinc 4 1, 3) := by decide +kernel
theorem d_RM_add_119 : decode b_RM_add 119 = .ok (.goto (-36), 3) := by decide +kernel
theorem d_RM_add_122 : decode b_RM_add 122 = .ok (.iconst 0, 1) := by decide +kernel
theorem d_RM_add_123 : decode b_RM_add 123 = .ok (.istore 4, 2) := by decide +kernel
theorem d_RM_add_125 : decode b_RM_add 125 = .ok (.iload 4, 2) := by decide +kernel
theorem d_RM_add_127 : decode b_RM_add 127 = .ok (.bipush 6, 2) := by decide +kernel
theorem d_RM_add_129 : decode b_RM_add 129 = .ok (.if_icmp .ge 39, 3) := by decide +kernel
theorem d_RM_add_132 : decode b_RM_add 132 = .ok (.aload_n 0, 1) := by decide +kernel
theorem d_RM_add_133 : decode b_RM_add 133 = .ok (.getfield 7, 3) := by decide +kernel
theorem d_RM_add_136 : decode b_RM_add 136 = .ok (.bipush 6, 2) := by decide +kernel
theorem d_RM_add_138 : decode b_RM_add 138 = .ok (.aload_n 0, 1) := by decide +kernel
theorem d_RM_add_139 : decode b_RM_add 139 = .ok (.getfield 39, 3) := by decide +kernel
theorem d_RM_add_142 : decode b_RM_add 142 = .ok (.imul, 1) := by decide +kernel
theorem d_RM_add_143 : decode b_RM_add 143 = .ok (.iload 4, 2) := by decide +kernel
theorem d_RM_add_145 : decode b_RM_add 145 = .ok (.iadd, 1) := by decide +kernel
theorem d_RM_add_146 : decode b_RM_add 146 = .ok (.iload_n 1, 1) := by decide +kernel
theorem d_RM_add_147 : decode b_RM_add 147 = .ok (.iload 4, 2) := by decide +kernel
theorem d_RM_add_149 : decode b_RM_add 149 = .ok (.ishr, 1) := by decide +kernel
theorem d_RM_add_150 : decode b_RM_add 150 = .ok (.iconst 1, 1) := by decide +kernel
theorem d_RM_add_151 : decode b_RM_add 151 = .ok (.iand, 1) := by decide +kernel
theorem d_RM_add_152 : decode b_RM_add 152 = .ok (.iconst 1, 1) := by decide +kernel
theorem d_RM_add_153 : decode b_RM_add 153 = .ok (.if_icmp .ne 7, 3) := by decide +kernel
theorem d_RM_add_156 : decode b_RM_add 156 = .ok (.iconst 1, 1) := by decide +kernel
theorem d_RM_add_157 : decode b_RM_add 157 = .ok (.goto 4, 3) := by decide +kernel
theorem d_RM_add_160 : decode b_RM_add 160 = .ok (.iconst 0, 1) := by decide +kernel
theorem d_RM_add_161 : decode b_RM_add 161 = .ok (.bastore, 1) := by decide +kernel
theorem d_RM_add_162 : decode b_RM_add 162 = .ok (.iinc 4 1, 3) := by decide +kernel
theorem d_RM_add_165 : decode b_RM_add 165 = .ok (.goto (-40), 3) := by decide +kernel
theorem d_RM_add_168 : decode b_RM_add 168 = .ok (.aload_n 0, 1) := by decide +kernel
theorem d_RM_add_169 : decode b_RM_add 169 = .ok (.dup, 1) := by decide +kernel
theorem d_RM_add_170 : decode b_RM_add 170 = .ok (.getfield 39, 3) := by decide +kernel
theorem d_RM_add_173 : decode b_RM_add 173 = .ok (.iconst 1, 1) := by decide +kernel
theorem d_RM_add_174 : decode b_RM_add 174 = .ok (.iadd, 1) := by decide +kernel
theorem d_RM_add_175 : decode b_RM_add 175 = .ok (.putfield 39, 3) := by decide +kernel
theorem d_RM_add_178 : decode b_RM_add 178 = .ok (.aload_n 0, 1) := by decide +kernel
theorem d_RM_add_179 : decode b_RM_add 179 = .ok (.getfield 39, 3) := by decide +kernel
theorem d_RM_add_182 : decode b_RM_add 182 = .ok (.iconst 1, 1) := by decide +kernel
theorem d_RM_add_183 : decode b_RM_add 183 = .ok (.isub, 1) := by decide +kernel
theorem d_RM_add_184 : decode b_RM_add 184 = .ok (.ireturn, 1) := by decide +kernel
theorem d_RM_add_185 : decode b_RM_add 185 = .ok (.iinc 3 1, 3) := by decide +kernel
theorem d_RM_add_188 : decode b_RM_add 188 = .ok (.goto (-129), 3) := by decide +kernel
theorem d_RM_add_191 : decode b_RM_add 191 = .ok (.iconst (-1), 1) := by decide +kernel
theorem d_RM_add_192 : decode b_RM_add 192 = .ok (.ireturn, 1) := by decide +kernel
theorem d_RM_heirs_0 : decode b_RM_heirs 0 = .ok (.aload_n 0, 1) := by decide +kernel
theorem d_RM_heirs_1 : decode b_RM_heirs 1 = .ok (.aload_n 0, 1) := by decide +kernel
theorem d_RM_heirs_2 : decode b_RM_heirs 2 = .ok (.iload_n 1, 1) := by decide +kernel
theorem d_RM_heirs_3 : decode b_RM_heirs 3 = .ok (.invokevirtual 49, 3) := by decide +kernel
theorem d_RM_heirs_6 : decode b_RM_heirs 6 = .ok (.ifCond .eq 7, 3) := by decide +kernel
theorem d_RM_heirs_9 : decode b_RM_heirs 9 = .ok (.iconst 1, 1) := by decide +kernel
theorem d_RM_heirs_10 : decode b_RM_heirs 10 = .ok (.goto 15, 3) := by decide +kernel
theorem d_RM_heirs_13 : decode b_RM_heirs 13 = .ok (.aload_n 0, 1) := by decide +kernel
theorem d_RM_heirs_14 : decode b_RM_heirs 14 = .ok (.getfield 45, 3) := by decide +kernel
theorem d_RM_heirs_17 : decode b_RM_heirs 17 = .ok (.ifCond .ne 7, 3) := by decide +kernel
theorem d_RM_heirs_20 : decode b_RM_heirs 20 = .ok (.iconst 2, 1) := by decide +kernel
theorem d_RM_heirs_21 : decode b_RM_heirs 21 = .ok (.goto 4, 3) := by decide +kernel
theorem d_RM_heirs_24 : decode b_RM_heirs 24 = .ok (.iconst 0, 1) := by decide +kernel
theorem d_RM_heirs_25 : decode b_RM_heirs 25 = .ok (.putfield 36, 3) := by decide +kernel
theorem d_RM_heirs_28 : decode b_RM_heirs 28 = .ok (.aload_n 0, 1) := by decide +kernel
theorem d_RM_heirs_29 : decode b_RM_heirs 29 = .ok (.getfield 36, 3) := by decide +kernel
theorem d_RM_heirs_32 : decode b_RM_heirs 32 = .ok (.ifCond .le 5, 3) := by decide +kernel
theorem d_RM_heirs_35 : decode b_RM_heirs 35 = .ok (.iconst 0, 1) := by decide +kernel
theorem d_RM_heirs_36 : decode b_RM_heirs 36 = .ok (.ireturn, 1) := by decide +kernel
theorem d_RM_heirs_37 : decode b_RM_heirs 37 = .ok (.iconst 0, 1) := by decide +kernel
theorem d_RM_heirs_38 : decode b_RM_heirs 38 = .ok (.istore_n 2, 1) := by decide +kernel
theorem d_RM_heirs_39 : decode b_RM_heirs 39 = .ok (.iconst 0, 1) := by decide +kernel
theorem d_RM_heirs_40 : decode b_RM_heirs 40 = .ok (.istore_n 3, 1) := by decide +kernel
theorem d_RM_heirs_41 : decode b_RM_heirs 41 = .ok (.iload_n 3, 1) := by decide +kernel
theorem d_RM_heirs_42 : decode b_RM_heirs 42 = .ok (.aload_n 0, 1) := by decide +kernel
theorem d_RM_heirs_43 : decode b_RM_heirs 43 = .ok (.getfield 39, 3) := by decide +kernel
theorem d_RM_heirs_46 : decode b_RM_heirs 46 = .ok (.if_icmp .ge 94, 3) := by decide +kernel
theorem d_RM_heirs_49 : decode b_RM_heirs 49 = .ok (.iload_n 3, 1) := by decide +kernel
theorem d_RM_heirs_50 : decode b_RM_heirs 50 = .ok (.iload_n 1, 1) := by decide +kernel
theorem d_RM_heirs_51 : decode b_RM_heirs 51 = .ok (.if_icmp .eq 7, 3) := by decide +kernel
theorem d_RM_heirs_54 : decode b_RM_heirs 54 = .ok (.iconst 1, 1) := by decide +kernel
theorem d_RM_heirs_55 : decode b_RM_heirs 55 = .ok (.goto 4, 3) := by decide +kernel
theorem d_RM_heirs_58 : decode b_RM_heirs 58 = .ok (.iconst 0, 1) := by decide +kernel
theorem d_RM_heirs_59 : decode b_RM_heirs 59 = .ok (.istore 4, 2) := by decide +kernel
theorem d_RM_heirs_61 : decode b_RM_heirs 61 = .ok (.iconst 0, 1) := by decide +kernel
theorem d_RM_heirs_62 : decode b_RM_heirs 62 = .ok (.istore 5, 2) := by decide +kernel
theorem d_RM_heirs_64 : decode b_RM_heirs 64 = .ok (.iload 5, 2) := by decide +kernel
theorem d_RM_heirs_66 : decode b_RM_heirs 66 = .ok (.aload_n 0, 1) := by decide +kernel
theorem d_RM_heirs_67 : decode b_RM_heirs 67 = .ok (.getfield 42, 3) := by decide +kernel
theorem d_RM_heirs_70 : decode b_RM_heirs 70 = .ok (.if_icmp .ge 49, 3) := by decide +kernel
theorem d_RM_heirs_73 : decode b_RM_heirs 73 = .ok (.iload 4, 2) := by decide +kernel
theorem d_RM_heirs_75 : decode b_RM_heirs 75 = .ok (.ifCond .eq 35, 3) := by decide +kernel
theorem d_RM_heirs_78 : decode b_RM_heirs 78 = .ok (.aload_n 0, 1) := by decide +kernel
theorem d_RM_heirs_79 : decode b_RM_heirs 79 = .ok (.aload_n 0, 1) := by decide +kernel
theorem d_RM_heirs_80 : decode b_RM_heirs 80 = .ok (.getfield 39, 3) := by decide +kernel
theorem d_RM_heirs_83 : decode b_RM_heirs 83 = .ok (.iload_n 1, 1) := by decide +kernel
theorem d_RM_heirs_84 : decode b_RM_heirs 84 = .ok (.iload 5, 2) := by decide +kernel
theorem d_RM_heirs_86 : decode b_RM_heirs 86 = .ok (.invokevirtual 71, 3) := by decide +kernel
theorem d_RM_heirs_89 : decode b_RM_heirs 89 = .ok (.ifCond .eq 17, 3) := by decide +kernel
theorem d_RM_heirs_92 : decode b_RM_heirs 92 = .ok (.aload_n 0, 1) := by decide +kernel
theorem d_RM_heirs_93 : decode b_RM_heirs 93 = .ok (.aload_n 0, 1) := by decide +kernel
theorem d_RM_heirs_94 : decode b_RM_heirs 94 = .ok (.getfield 39, 3) := by decide +kernel
theorem d_RM_heirs_97 : decode b_RM_heirs 97 = .ok (.iload_n 3, 1) := by decide +kernel
theorem d_RM_heirs_98 : decode b_RM_heirs 98 = .ok (.iload 5, 2) := by decide +kernel
theorem d_RM_heirs_100 : decode b_RM_heirs 100 = .ok (.invokevirtual 71, 3) := by decide +kernel
theorem d_RM_heirs_103 : decode b_RM_heirs 103 = .ok (.ifCond .eq 7, 3) := by decide +kernel
theorem d_RM_heirs_106 : decode b_RM_heirs 106 = .ok (.iconst 1, 1) := by decide +kernel
theorem d_RM_heirs_107 : decode b_RM_heirs 107 = .ok (.goto 4, 3) := by decide +kernel
theorem d_RM_heirs_110 : decode b_RM_heirs 110 = .ok (.iconst 0, 1) := by decide +kernel
theorem d_RM_heirs_111 : decode b_RM_heirs 111 = .ok (.istore 4, 2) := by decide +kernel
theorem d_RM_heirs_113 : decode b_RM_heirs 113 = .ok (.iinc 5 1, 3) := by decide +kernel
theorem d_RM_heirs_116 : decode b_RM_heirs 116 = .ok (.goto (-52), 3) := by decide +kernel
theorem d_RM_heirs_119 : decode b_RM_heirs 119 = .ok (.iload_n 2, 1) := by decide +kernel
theorem d_RM_heirs_120 : decode b_RM_heirs 120 = .ok (.iload 4, 2) := by decide +kernel
theorem d_RM_heirs_122 : decode b_RM_heirs 122 = .ok (.ifCond .eq 9, 3) := by decide +kernel
theorem d_RM_heirs_125 : decode b_RM_heirs 125 = .ok (.iconst 1, 1) := by decide +kernel
theorem d_RM_heirs_126 : decode b_RM_heirs 126 = .ok (.iload_n 3, 1) := by decide +kernel
theorem d_RM_heirs_127 : decode b_RM_heirs 127 = .ok (.ishl, 1) := by decide +kernel
theorem d_RM_heirs_128 : decode b_RM_heirs 128 = .ok (.goto 4, 3) := by decide +kernel
theorem d_RM_heirs_131 : decode b_RM_heirs 131 = .ok (.iconst 0, 1) := by decide +kernel
theorem d_RM_heirs_132 : decode b_RM_heirs 132 = .ok (.ior, 1) := by decide +kernel
theorem d_RM_heirs_133 : decode b_RM_heirs 133 = .ok (.istore_n 2, 1) := by decide +kernel
theorem d_RM_heirs_134 : decode b_RM_heirs 134 = .ok (.iinc 3 1, 3) := by decide +kernel
theorem d_RM_heirs_137 : decode b_RM_heirs 137 = .ok (.goto (-96), 3) := by decide +kernel
theorem d_RM_heirs_140 : decode b_RM_heirs 140 = .ok (.iload_n 2, 1) := by decide +kernel
theorem d_RM_heirs_141 : decode b_RM_heirs 141 = .ok (.ireturn, 1) := by decide +kernel
end
section
/-- ints and longs by place and field (or element) -/
abbrev SS : Type := (Nat → Nat → Int32) × (Nat → Nat → Int64)
def wI (S : SS) (p k : Nat) (v : Int32) : SS := (fun a b => if a = p ∧ b = k then v else S.1 a b, S.2)
def wL (S : SS) (p k : Nat) (v : Int64) : SS := (S.1, fun a b => if a = p ∧ b = k then v else S.2 a b)
def FU : Nat := 2147483648
abbrev oob (i : Int32) (n : Nat) : Prop := i < 0 ∨ n ≤ i.toNatClampNeg
abbrev NP : Nat := 39
def exN (k : Nat) : String := if k = 1 then "java/lang/IllegalArgumentException" else "java/lang/IllegalStateException"
def refsX (ad : Nat → Nat) (base n : Nat) : Nat → Option Nat := fun i => if i < n then some (ad (base + i)) else none
def cellR (cA : Nat → ClassId) (ad : Nat → Nat) (r1 : Nat → Int32) (r2 : Nat → Int64) (p : Nat) : va_E :=
  if p = 0 then .inr (0, [.ref (ad 1), .ref (ad 2), .ref (ad 3), .ref (ad 4), .int (r1 4)]) else
  if p = 1 then .inr (1, [.int (r1 0), .int (r1 1), .int (r1 2), .int (r1 3), .long (r2 4)]) else
  if p = 2 then .inr (2, [.ref (ad 1), .int (r1 1), .int (r1 2), .ref (ad 5), .ref (ad 6), .ref (ad 7), .ref (ad 8)]) else
  if p = 3 then .inr (3, [.ref (ad 1), .ref (ad 2), .int (r1 2), .int (r1 3), .int (r1 4)]) else
  if p = 4 then .inr (4, [.ref (ad 1), .ref (ad 2), .ref (ad 9)]) else
  if p = 5 then .inl (cA 0, 8, .inl r1) else
  if p = 6 then .inl (cA 2, 8, .inr (.inr (.inr (.inr (refsX ad 10 8))))) else
  if p = 7 then .inl (cA 1, 8, .inr (.inl r2)) else
  if p = 8 then .inl (cA 3, 9, .inr (.inr (.inr (.inr (refsX ad 18 9))))) else
  if p = 9 then .inl (cA 2, 6, .inr (.inr (.inr (.inr (refsX ad 27 6))))) else
  if p = 33 then .inr (5, [.int (r1 0), .int (r1 1), .int (r1 2), .int (r1 3), .int (r1 4), .ref (ad 34), .int (r1 6), .int (r1 7), .ref (ad 35), .int (r1 9), .int (r1 10), .ref (ad 36), .ref (ad 37)]) else
  if p = 34 then .inl (cA 4, 48, .inl r1) else
  if p = 35 then .inl (cA 4, 64, .inl r1) else
  if p = 36 then .inl (cA 0, 48, .inl r1) else
  if p = 37 then .inl (cA 0, 6, .inl r1) else
  if p = 38 then .inl (cA 1, 1, .inr (.inl r2)) else
  if 10 ≤ p ∧ p < 18 then .inl (cA 0, 6, .inl r1) else
  if 18 ≤ p ∧ p < 27 then .inl (cA 1, 6, .inr (.inl r2)) else
  if 27 ≤ p ∧ p < 33 then .inl (cA 0, 512, .inl r1) else
  .inr (0, [])
def cellOf (cA : Nat → ClassId) (ad : Nat → Nat) (S : SS) (p : Nat) : va_E := cellR cA ad (S.1 p) (S.2 p) p
def X (cA : Nat → ClassId) (ad : Nat → Nat) (S : SS) : va_W := (List.range NP).map (fun p => (ad p, cellOf cA ad S p))
def tysX (cA : Nat → ClassId) : List (ClassId × FieldType) := [(cA 0, .int), (cA 1, .long), (cA 2, .array .int), (cA 3, .array .long), (cA 4, .boolean)]
def AS (ad : Nat → Nat) (sz : Nat) : Nat → Prop := fun q => (∃ p, p < NP ∧ q = ad p) ∨ sz ≤ q
def InjA (ad : Nat → Nat) : Prop := ∀ i j, i < NP → j < NP → ad i = ad j → i = j
section XR
variable {cA : Nat → ClassId} {ad : Nat → Nat} {S : SS} {D : va_G} {cl : List vw_C} {H : Heap}
theorem X_at {p : Nat} (h : p < NP) : (X cA ad S)[p]? = some (ad p, cellOf cA ad S p) := by
  unfold X
  rw [List.getElem?_map, List.getElem?_range h]
  rfl
theorem X_of {k : Nat} {q : Nat × va_E} (h : (X cA ad S)[k]? = some q) : k < NP ∧ q = (ad k, cellOf cA ad S k) := by
  have hk : k < NP := by
    have := (List.getElem?_eq_some_iff.mp h).1
    simpa [X] using this
  rw [X_at hk] at h
  exact ⟨hk, (Option.some.inj h).symm⟩
theorem X_D {A : Nat → Prop} (hI : InjA ad) (hA : ∀ q, q < NP → A (ad q)) : va_D A (X cA ad S) := by
  refine ⟨fun i j p q hi hj e => ?_, fun k q hk => ?_⟩
  · obtain ⟨h1, rfl⟩ := X_of hi
    obtain ⟨h2, rfl⟩ := X_of hj
    exact hI i j h1 h2 e
  · obtain ⟨h1, rfl⟩ := X_of hk
    exact hA k h1
theorem cellOf_congr {S S' : SS} {p : Nat} (h1 : S.1 p = S'.1 p) (h2 : S.2 p = S'.2 p) : cellOf cA ad S p = cellOf cA ad S' p := by
  unfold cellOf
  rw [h1, h2]
theorem X_set {S' : SS} {p : Nat} {c : va_E} (h : p < NP) (hc : cellOf cA ad S' p = c) (ho : ∀ q, q ≠ p → S.1 q = S'.1 q ∧ S.2 q = S'.2 q) : (X cA ad S).set p (ad p, c) = X cA ad S' := by
  apply List.ext_getElem?
  intro j
  by_cases hj : j = p
  · subst hj
    rw [List.getElem?_set_self (by simpa [X] using h), X_at h, hc]
  · rw [List.getElem?_set_ne (Ne.symm hj)]
    by_cases hn : j < NP
    · rw [X_at hn, X_at hn, cellOf_congr (ho j hj).1 (ho j hj).2]
    · rw [List.getElem?_eq_none (by simpa [X] using hn), List.getElem?_eq_none (by simpa [X] using hn)]
theorem wI_ne {p k q : Nat} {v : Int32} (h : q ≠ p) : S.1 q = (wI S p k v).1 q := by
  funext b
  simp [wI, h]
theorem wL_ne {p k q : Nat} {v : Int64} (h : q ≠ p) : S.2 q = (wL S p k v).2 q := by
  funext b
  simp [wL, h]
theorem X_putI {p k ci : Nat} {v : Int32} {fs : List Value} (h : p < NP) (hP : va_P D cl ((X cA ad S).set p (ad p, .inr (ci, fs.set k (.int v)))) H) (hc : cellOf cA ad (wI S p k v) p = .inr (ci, fs.set k (.int v))) : va_P D cl (X cA ad (wI S p k v)) H := by
  rw [X_set (S := S) (S' := wI S p k v) h hc (fun q hq => ⟨wI_ne hq, rfl⟩)] at hP
  exact hP
theorem X_putL {p k ci : Nat} {v : Int64} {fs : List Value} (h : p < NP) (hP : va_P D cl ((X cA ad S).set p (ad p, .inr (ci, fs.set k (.long v)))) H) (hc : cellOf cA ad (wL S p k v) p = .inr (ci, fs.set k (.long v))) : va_P D cl (X cA ad (wL S p k v)) H := by
  rw [X_set (S := S) (S' := wL S p k v) h hc (fun q hq => ⟨rfl, wL_ne hq⟩)] at hP
  exact hP
theorem wI_row {p k : Nat} {v : Int32} : (wI S p k v).1 p = upd (S.1 p) k v := by
  funext b
  simp [wI, upd]
theorem wL_row {p k : Nat} {v : Int64} : (wL S p k v).2 p = vp_updL (S.2 p) k v := by
  funext b
  simp [wL, vp_updL]
theorem X_stI {p k n : Nat} {c : ClassId} {v : Int32} (h : p < NP) (hc : ∀ S : SS, cellOf cA ad S p = .inl (c, n, .inl (S.1 p))) (hP : va_P D cl ((X cA ad S).set p (ad p, .inl (c, n, .inl (upd (S.1 p) k v)))) H) : va_P D cl (X cA ad (wI S p k v)) H := by
  rw [X_set (S := S) (S' := wI S p k v) h (by rw [hc, wI_row]) (fun q hq => ⟨wI_ne hq, rfl⟩)] at hP
  exact hP
theorem X_stL {p k n : Nat} {c : ClassId} {v : Int64} (h : p < NP) (hc : ∀ S : SS, cellOf cA ad S p = .inl (c, n, .inr (.inl (S.2 p)))) (hP : va_P D cl ((X cA ad S).set p (ad p, .inl (c, n, .inr (.inl (vp_updL (S.2 p) k v))))) H) : va_P D cl (X cA ad (wL S p k v)) H := by
  rw [X_set (S := S) (S' := wL S p k v) h (by rw [hc, wL_row]) (fun q hq => ⟨rfl, wL_ne hq⟩)] at hP
  exact hP
theorem X_row {base n : Nat} {i : Int32} (b : ¬ oob i n) : va_rf (refsX ad base n i.toNatClampNeg) = .ref (ad (base + i.toNatClampNeg)) := by
  have h : i.toNatClampNeg < n := Nat.not_le.mp fun q => b (Or.inr q)
  simp [refsX, h, va_rf]
theorem oob_lt {n : Nat} {i : Int32} (b : ¬ oob i n) : i.toNatClampNeg < n := Nat.not_le.mp fun q => b (Or.inr q)
theorem Xa_0 : (X cA ad S)[0]? = some (ad 0, .inr (0, [.ref (ad 1), .ref (ad 2), .ref (ad 3), .ref (ad 4), .int (S.1 0 4)])) := X_at (p := 0) (by decide)
theorem Xa_1 : (X cA ad S)[1]? = some (ad 1, .inr (1, [.int (S.1 1 0), .int (S.1 1 1), .int (S.1 1 2), .int (S.1 1 3), .long (S.2 1 4)])) := X_at (p := 1) (by decide)
theorem Xa_2 : (X cA ad S)[2]? = some (ad 2, .inr (2, [.ref (ad 1), .int (S.1 2 1), .int (S.1 2 2), .ref (ad 5), .ref (ad 6), .ref (ad 7), .ref (ad 8)])) := X_at (p := 2) (by decide)
theorem Xa_3 : (X cA ad S)[3]? = some (ad 3, .inr (3, [.ref (ad 1), .ref (ad 2), .int (S.1 3 2), .int (S.1 3 3), .int (S.1 3 4)])) := X_at (p := 3) (by decide)
theorem Xa_4 : (X cA ad S)[4]? = some (ad 4, .inr (4, [.ref (ad 1), .ref (ad 2), .ref (ad 9)])) := X_at (p := 4) (by decide)
theorem Xa_5 : (X cA ad S)[5]? = some (ad 5, .inl (cA 0, 8, .inl (S.1 5))) := X_at (p := 5) (by decide)
theorem Xc_5 (S : SS) : cellOf cA ad S 5 = .inl (cA 0, 8, .inl (S.1 5)) := rfl
theorem Xa_6 : (X cA ad S)[6]? = some (ad 6, .inl (cA 2, 8, .inr (.inr (.inr (.inr (refsX ad 10 8)))))) := X_at (p := 6) (by decide)
theorem Xa_7 : (X cA ad S)[7]? = some (ad 7, .inl (cA 1, 8, .inr (.inl (S.2 7)))) := X_at (p := 7) (by decide)
theorem Xc_7 (S : SS) : cellOf cA ad S 7 = .inl (cA 1, 8, .inr (.inl (S.2 7))) := rfl
theorem Xa_8 : (X cA ad S)[8]? = some (ad 8, .inl (cA 3, 9, .inr (.inr (.inr (.inr (refsX ad 18 9)))))) := X_at (p := 8) (by decide)
theorem Xa_9 : (X cA ad S)[9]? = some (ad 9, .inl (cA 2, 6, .inr (.inr (.inr (.inr (refsX ad 27 6)))))) := X_at (p := 9) (by decide)
theorem Xa_33 : (X cA ad S)[33]? = some (ad 33, .inr (5, [.int (S.1 33 0), .int (S.1 33 1), .int (S.1 33 2), .int (S.1 33 3), .int (S.1 33 4), .ref (ad 34), .int (S.1 33 6), .int (S.1 33 7), .ref (ad 35), .int (S.1 33 9), .int (S.1 33 10), .ref (ad 36), .ref (ad 37)])) := X_at (p := 33) (by decide)
theorem Xa_34 : (X cA ad S)[34]? = some (ad 34, .inl (cA 4, 48, .inl (S.1 34))) := X_at (p := 34) (by decide)
theorem Xc_34 (S : SS) : cellOf cA ad S 34 = .inl (cA 4, 48, .inl (S.1 34)) := rfl
theorem Xa_35 : (X cA ad S)[35]? = some (ad 35, .inl (cA 4, 64, .inl (S.1 35))) := X_at (p := 35) (by decide)
theorem Xc_35 (S : SS) : cellOf cA ad S 35 = .inl (cA 4, 64, .inl (S.1 35)) := rfl
theorem Xa_36 : (X cA ad S)[36]? = some (ad 36, .inl (cA 0, 48, .inl (S.1 36))) := X_at (p := 36) (by decide)
theorem Xc_36 (S : SS) : cellOf cA ad S 36 = .inl (cA 0, 48, .inl (S.1 36)) := rfl
theorem Xa_37 : (X cA ad S)[37]? = some (ad 37, .inl (cA 0, 6, .inl (S.1 37))) := X_at (p := 37) (by decide)
theorem Xc_37 (S : SS) : cellOf cA ad S 37 = .inl (cA 0, 6, .inl (S.1 37)) := rfl
theorem Xa_38 : (X cA ad S)[38]? = some (ad 38, .inl (cA 1, 1, .inr (.inl (S.2 38)))) := X_at (p := 38) (by decide)
theorem Xc_38 (S : SS) : cellOf cA ad S 38 = .inl (cA 1, 1, .inr (.inl (S.2 38))) := rfl
theorem Xg_6 (S : SS) {j : Nat} (h : j < 8) : cellOf cA ad S (10 + j) = .inl (cA 0, 6, .inl (S.1 (10 + j))) := by
  unfold cellOf cellR
  rw [if_neg (show ¬ 10 + j = 0 by omega), if_neg (show ¬ 10 + j = 1 by omega), if_neg (show ¬ 10 + j = 2 by omega), if_neg (show ¬ 10 + j = 3 by omega), if_neg (show ¬ 10 + j = 4 by omega), if_neg (show ¬ 10 + j = 5 by omega), if_neg (show ¬ 10 + j = 6 by omega), if_neg (show ¬ 10 + j = 7 by omega), if_neg (show ¬ 10 + j = 8 by omega), if_neg (show ¬ 10 + j = 9 by omega), if_neg (show ¬ 10 + j = 33 by omega), if_neg (show ¬ 10 + j = 34 by omega), if_neg (show ¬ 10 + j = 35 by omega), if_neg (show ¬ 10 + j = 36 by omega), if_neg (show ¬ 10 + j = 37 by omega), if_neg (show ¬ 10 + j = 38 by omega)]
  exact if_pos ⟨by omega, by omega⟩
theorem X_rowlt6 {i : Int32} (b : ¬ oob i 8) : 10 + i.toNatClampNeg < NP := by
  have := oob_lt b
  simp only [NP]
  omega
theorem X_rowcell6 {i : Int32} (b : ¬ oob i 8) (S : SS) : cellOf cA ad S (10 + i.toNatClampNeg) = .inl (cA 0, 6, .inl (S.1 (10 + i.toNatClampNeg))) := Xg_6 S (oob_lt b)
theorem X_rowat6 {i : Int32} (b : ¬ oob i 8) : (X cA ad S)[10 + i.toNatClampNeg]? = some (ad (10 + i.toNatClampNeg), .inl (cA 0, 6, .inl (S.1 (10 + i.toNatClampNeg)))) := by
  rw [X_at (X_rowlt6 b), X_rowcell6 b]
theorem Xg_8 (S : SS) {j : Nat} (h : j < 9) : cellOf cA ad S (18 + j) = .inl (cA 1, 6, .inr (.inl (S.2 (18 + j)))) := by
  unfold cellOf cellR
  rw [if_neg (show ¬ 18 + j = 0 by omega), if_neg (show ¬ 18 + j = 1 by omega), if_neg (show ¬ 18 + j = 2 by omega), if_neg (show ¬ 18 + j = 3 by omega), if_neg (show ¬ 18 + j = 4 by omega), if_neg (show ¬ 18 + j = 5 by omega), if_neg (show ¬ 18 + j = 6 by omega), if_neg (show ¬ 18 + j = 7 by omega), if_neg (show ¬ 18 + j = 8 by omega), if_neg (show ¬ 18 + j = 9 by omega), if_neg (show ¬ 18 + j = 33 by omega), if_neg (show ¬ 18 + j = 34 by omega), if_neg (show ¬ 18 + j = 35 by omega), if_neg (show ¬ 18 + j = 36 by omega), if_neg (show ¬ 18 + j = 37 by omega), if_neg (show ¬ 18 + j = 38 by omega)]
  rw [if_neg (show ¬ (10 ≤ 18 + j ∧ 18 + j < 18) by omega)]
  exact if_pos ⟨by omega, by omega⟩
theorem X_rowlt8 {i : Int32} (b : ¬ oob i 9) : 18 + i.toNatClampNeg < NP := by
  have := oob_lt b
  simp only [NP]
  omega
theorem X_rowcell8 {i : Int32} (b : ¬ oob i 9) (S : SS) : cellOf cA ad S (18 + i.toNatClampNeg) = .inl (cA 1, 6, .inr (.inl (S.2 (18 + i.toNatClampNeg)))) := Xg_8 S (oob_lt b)
theorem X_rowat8 {i : Int32} (b : ¬ oob i 9) : (X cA ad S)[18 + i.toNatClampNeg]? = some (ad (18 + i.toNatClampNeg), .inl (cA 1, 6, .inr (.inl (S.2 (18 + i.toNatClampNeg))))) := by
  rw [X_at (X_rowlt8 b), X_rowcell8 b]
theorem Xg_9 (S : SS) {j : Nat} (h : j < 6) : cellOf cA ad S (27 + j) = .inl (cA 0, 512, .inl (S.1 (27 + j))) := by
  unfold cellOf cellR
  rw [if_neg (show ¬ 27 + j = 0 by omega), if_neg (show ¬ 27 + j = 1 by omega), if_neg (show ¬ 27 + j = 2 by omega), if_neg (show ¬ 27 + j = 3 by omega), if_neg (show ¬ 27 + j = 4 by omega), if_neg (show ¬ 27 + j = 5 by omega), if_neg (show ¬ 27 + j = 6 by omega), if_neg (show ¬ 27 + j = 7 by omega), if_neg (show ¬ 27 + j = 8 by omega), if_neg (show ¬ 27 + j = 9 by omega), if_neg (show ¬ 27 + j = 33 by omega), if_neg (show ¬ 27 + j = 34 by omega), if_neg (show ¬ 27 + j = 35 by omega), if_neg (show ¬ 27 + j = 36 by omega), if_neg (show ¬ 27 + j = 37 by omega), if_neg (show ¬ 27 + j = 38 by omega)]
  rw [if_neg (show ¬ (10 ≤ 27 + j ∧ 27 + j < 18) by omega)]
  rw [if_neg (show ¬ (18 ≤ 27 + j ∧ 27 + j < 27) by omega)]
  exact if_pos ⟨by omega, by omega⟩
theorem X_rowlt9 {i : Int32} (b : ¬ oob i 6) : 27 + i.toNatClampNeg < NP := by
  have := oob_lt b
  simp only [NP]
  omega
theorem X_rowcell9 {i : Int32} (b : ¬ oob i 6) (S : SS) : cellOf cA ad S (27 + i.toNatClampNeg) = .inl (cA 0, 512, .inl (S.1 (27 + i.toNatClampNeg))) := Xg_9 S (oob_lt b)
theorem X_rowat9 {i : Int32} (b : ¬ oob i 6) : (X cA ad S)[27 + i.toNatClampNeg]? = some (ad (27 + i.toNatClampNeg), .inl (cA 0, 512, .inl (S.1 (27 + i.toNatClampNeg)))) := by
  rw [X_at (X_rowlt9 b), X_rowcell9 b]
end XR
theorem zb_f {v : Int32} (h : v = 0 ∨ v = 1) : fits .boolean (.int v) = true := by
  rcases h with rfl | rfl <;> rfl
section GZ
variable {p : Program} {l : Launch} {e : Env} {R : Room} {s : State} {m : MethodId} {args : Array Value} {below : List Frame} {meth : Method} {c : Code} {H : Heap} {locs : List Loc} {cells slots : Nat} {Q : State → Prop}
variable {cc : ByteArray} {pc : Nat} {ls : Array Slot} {rest : List Value} {D : va_G} {cl : List vw_C} {a : Nat} {tys : List (ClassId × FieldType)} {ws : va_W}
/-- a row of an array of arrays -/
theorem gz_aald (hx : p.tables.exec = Jvm.exec) (hb : c.code = cc) (hK : va_K D cl tys s) (hP : va_P D cl ws H) (q0 t0 : Nat) {cA : ClassId} {t : FieldType} {n : Nat} {f : Nat → Option Nat} (ha : ws[q0]? = some (a, .inl (cA, n, .inr (.inr (.inr (.inr f)))))) (ht : tys[t0]? = some (cA, .array t)) {i : Int32} (hin : vp_in i n) (hdg : decode cc pc = .ok (.aaload, 1))
    (kk : W p l e R s m args below meth c H locs cells slots Q (F0 m (pc + 1) ls (va_rf (f i.toNatClampNeg) :: rest))) : W p l e R s m args below meth c H locs cells slots Q (F0 m pc ls (.int i :: .ref a :: rest)) := by
  have hlt : i.toNatClampNeg < n := Nat.not_le.mp fun q => hin (Or.inr q)
  have hk : (vp_cell cA (n, .inr (.inr (.inr (.inr f))))).slots[i.toNatClampNeg]? = some (va_rf (f i.toNatClampNeg)) := by
    show (arrV _ _ _).slots[_]? = _
    rw [arrV_read _ _ hlt]
  have hz : ¬ (i < 0 ∨ (vp_cell cA (n, .inr (.inr (.inr (.inr f))))).slots.size ≤ i.toNatClampNeg) := by
    show ¬ (i < 0 ∨ (arrV _ _ _).slots.size ≤ _)
    rw [arrV_size]
    exact hin
  exact W.aald (ty := .array t) hx hb (hP q0 _ ha) ((hK.2 t0 _ ht).1 n (fun j => va_rf (f j))) rfl (fun q => by cases q) hz hk rfl rfl hdg kk
end GZ
theorem zb_n {v : Int32} (h : v = 0 ∨ v = 1) : narrow .boolean (.int v) = .int v := by
  rcases h with rfl | rfl <;> rfl
end
section
def f_MK_tries (S : SS) : Option (Int32) :=
  some (S.1 3 2)
theorem f_MK_tries_s (S : SS) : f_MK_tries S =
  some (S.1 3 2) := rfl
def f_Board_isWithin (a0 : Int64) (a2 : Int64) (S : SS) : Option (Int32) :=
  if (lg_cmp (a0 &&& (a2 ^^^ (-1 : Int64))) (0 : Int64)) = 0 then some (1 : Int32) else
  some (0 : Int32)
theorem f_Board_isWithin_s (a0 : Int64) (a2 : Int64) (S : SS) : f_Board_isWithin a0 a2 S =
  if (lg_cmp (a0 &&& (a2 ^^^ (-1 : Int64))) (0 : Int64)) = 0 then some (1 : Int32) else
  some (0 : Int32) := rfl
def f_Board_doorsFitted_L5 (y1 : Int64) : Nat → Int32 → Int32 → SS → Option (Int32)
  | 0, _, _, _ => none
  | n + 1, x3, x4, S =>
    if (S.1 2 2) ≤ x4 then some x3 else
    if oob (S.1 2 1) 9 then none else
    if oob x4 6 then none else
    (f_Board_isWithin y1 (S.2 (18 + (S.1 2 1).toNatClampNeg) x4.toNatClampNeg) S).bind fun o3 =>
    if o3 = 0 then f_Board_doorsFitted_L5 y1 n x3 (x4 + 1) S else
    f_Board_doorsFitted_L5 y1 n (x3 ||| ((1 : Int32) <<< (x4 &&& 31))) (x4 + 1) S
theorem f_Board_doorsFitted_L5_s (y1 : Int64) (n : Nat) (x3 : Int32) (x4 : Int32) (S : SS) : f_Board_doorsFitted_L5 y1 (n + 1) x3 x4 S =
    if (S.1 2 2) ≤ x4 then some x3 else
    if oob (S.1 2 1) 9 then none else
    if oob x4 6 then none else
    (f_Board_isWithin y1 (S.2 (18 + (S.1 2 1).toNatClampNeg) x4.toNatClampNeg) S).bind fun o3 =>
    if o3 = 0 then f_Board_doorsFitted_L5 y1 n x3 (x4 + 1) S else
    f_Board_doorsFitted_L5 y1 n (x3 ||| ((1 : Int32) <<< (x4 &&& 31))) (x4 + 1) S := rfl
def f_Board_doorsFitted (a1 : Int64) (S : SS) : Option (Int32) :=
  (f_Board_doorsFitted_L5 a1 FU (0 : Int32) (0 : Int32) S).bind fun v1 =>
  some v1
theorem f_Board_doorsFitted_s (a1 : Int64) (S : SS) : f_Board_doorsFitted a1 S =
  (f_Board_doorsFitted_L5 a1 FU (0 : Int32) (0 : Int32) S).bind fun v1 =>
  some v1 := rfl
def f_Board_doorsOf (a1 : Int32) (S : SS) : Option (Int32) :=
  if oob a1 8 then none else
  (f_Board_doorsFitted (S.2 7 a1.toNatClampNeg) S).bind fun o2 =>
  some o2
theorem f_Board_doorsOf_s (a1 : Int32) (S : SS) : f_Board_doorsOf a1 S =
  if oob a1 8 then none else
  (f_Board_doorsFitted (S.2 7 a1.toNatClampNeg) S).bind fun o2 =>
  some o2 := rfl
def f_JI_bitCount (a0 : Int32) (S : SS) : Option (Int32) :=
  some ((((((((a0 - (((a0.toUInt32 >>> ((1 : Int32).toUInt32 &&& Int32.toUInt32 31)).toInt32) &&& (1431655765 : Int32))) &&& (858993459 : Int32)) + ((((a0 - (((a0.toUInt32 >>> ((1 : Int32).toUInt32 &&& Int32.toUInt32 31)).toInt32) &&& (1431655765 : Int32))).toUInt32 >>> ((2 : Int32).toUInt32 &&& Int32.toUInt32 31)).toInt32) &&& (858993459 : Int32))) + (((((a0 - (((a0.toUInt32 >>> ((1 : Int32).toUInt32 &&& Int32.toUInt32 31)).toInt32) &&& (1431655765 : Int32))) &&& (858993459 : Int32)) + ((((a0 - (((a0.toUInt32 >>> ((1 : Int32).toUInt32 &&& Int32.toUInt32 31)).toInt32) &&& (1431655765 : Int32))).toUInt32 >>> ((2 : Int32).toUInt32 &&& Int32.toUInt32 31)).toInt32) &&& (858993459 : Int32))).toUInt32 >>> ((4 : Int32).toUInt32 &&& Int32.toUInt32 31)).toInt32)) &&& (252645135 : Int32)) + (((((((a0 - (((a0.toUInt32 >>> ((1 : Int32).toUInt32 &&& Int32.toUInt32 31)).toInt32) &&& (1431655765 : Int32))) &&& (858993459 : Int32)) + ((((a0 - (((a0.toUInt32 >>> ((1 : Int32).toUInt32 &&& Int32.toUInt32 31)).toInt32) &&& (1431655765 : Int32))).toUInt32 >>> ((2 : Int32).toUInt32 &&& Int32.toUInt32 31)).toInt32) &&& (858993459 : Int32))) + (((((a0 - (((a0.toUInt32 >>> ((1 : Int32).toUInt32 &&& Int32.toUInt32 31)).toInt32) &&& (1431655765 : Int32))) &&& (858993459 : Int32)) + ((((a0 - (((a0.toUInt32 >>> ((1 : Int32).toUInt32 &&& Int32.toUInt32 31)).toInt32) &&& (1431655765 : Int32))).toUInt32 >>> ((2 : Int32).toUInt32 &&& Int32.toUInt32 31)).toInt32) &&& (858993459 : Int32))).toUInt32 >>> ((4 : Int32).toUInt32 &&& Int32.toUInt32 31)).toInt32)) &&& (252645135 : Int32)).toUInt32 >>> ((8 : Int32).toUInt32 &&& Int32.toUInt32 31)).toInt32)) + ((((((((a0 - (((a0.toUInt32 >>> ((1 : Int32).toUInt32 &&& Int32.toUInt32 31)).toInt32) &&& (1431655765 : Int32))) &&& (858993459 : Int32)) + ((((a0 - (((a0.toUInt32 >>> ((1 : Int32).toUInt32 &&& Int32.toUInt32 31)).toInt32) &&& (1431655765 : Int32))).toUInt32 >>> ((2 : Int32).toUInt32 &&& Int32.toUInt32 31)).toInt32) &&& (858993459 : Int32))) + (((((a0 - (((a0.toUInt32 >>> ((1 : Int32).toUInt32 &&& Int32.toUInt32 31)).toInt32) &&& (1431655765 : Int32))) &&& (858993459 : Int32)) + ((((a0 - (((a0.toUInt32 >>> ((1 : Int32).toUInt32 &&& Int32.toUInt32 31)).toInt32) &&& (1431655765 : Int32))).toUInt32 >>> ((2 : Int32).toUInt32 &&& Int32.toUInt32 31)).toInt32) &&& (858993459 : Int32))).toUInt32 >>> ((4 : Int32).toUInt32 &&& Int32.toUInt32 31)).toInt32)) &&& (252645135 : Int32)) + (((((((a0 - (((a0.toUInt32 >>> ((1 : Int32).toUInt32 &&& Int32.toUInt32 31)).toInt32) &&& (1431655765 : Int32))) &&& (858993459 : Int32)) + ((((a0 - (((a0.toUInt32 >>> ((1 : Int32).toUInt32 &&& Int32.toUInt32 31)).toInt32) &&& (1431655765 : Int32))).toUInt32 >>> ((2 : Int32).toUInt32 &&& Int32.toUInt32 31)).toInt32) &&& (858993459 : Int32))) + (((((a0 - (((a0.toUInt32 >>> ((1 : Int32).toUInt32 &&& Int32.toUInt32 31)).toInt32) &&& (1431655765 : Int32))) &&& (858993459 : Int32)) + ((((a0 - (((a0.toUInt32 >>> ((1 : Int32).toUInt32 &&& Int32.toUInt32 31)).toInt32) &&& (1431655765 : Int32))).toUInt32 >>> ((2 : Int32).toUInt32 &&& Int32.toUInt32 31)).toInt32) &&& (858993459 : Int32))).toUInt32 >>> ((4 : Int32).toUInt32 &&& Int32.toUInt32 31)).toInt32)) &&& (252645135 : Int32)).toUInt32 >>> ((8 : Int32).toUInt32 &&& Int32.toUInt32 31)).toInt32)).toUInt32 >>> ((16 : Int32).toUInt32 &&& Int32.toUInt32 31)).toInt32)) &&& (63 : Int32))
theorem f_JI_bitCount_s (a0 : Int32) (S : SS) : f_JI_bitCount a0 S =
  some ((((((((a0 - (((a0.toUInt32 >>> ((1 : Int32).toUInt32 &&& Int32.toUInt32 31)).toInt32) &&& (1431655765 : Int32))) &&& (858993459 : Int32)) + ((((a0 - (((a0.toUInt32 >>> ((1 : Int32).toUInt32 &&& Int32.toUInt32 31)).toInt32) &&& (1431655765 : Int32))).toUInt32 >>> ((2 : Int32).toUInt32 &&& Int32.toUInt32 31)).toInt32) &&& (858993459 : Int32))) + (((((a0 - (((a0.toUInt32 >>> ((1 : Int32).toUInt32 &&& Int32.toUInt32 31)).toInt32) &&& (1431655765 : Int32))) &&& (858993459 : Int32)) + ((((a0 - (((a0.toUInt32 >>> ((1 : Int32).toUInt32 &&& Int32.toUInt32 31)).toInt32) &&& (1431655765 : Int32))).toUInt32 >>> ((2 : Int32).toUInt32 &&& Int32.toUInt32 31)).toInt32) &&& (858993459 : Int32))).toUInt32 >>> ((4 : Int32).toUInt32 &&& Int32.toUInt32 31)).toInt32)) &&& (252645135 : Int32)) + (((((((a0 - (((a0.toUInt32 >>> ((1 : Int32).toUInt32 &&& Int32.toUInt32 31)).toInt32) &&& (1431655765 : Int32))) &&& (858993459 : Int32)) + ((((a0 - (((a0.toUInt32 >>> ((1 : Int32).toUInt32 &&& Int32.toUInt32 31)).toInt32) &&& (1431655765 : Int32))).toUInt32 >>> ((2 : Int32).toUInt32 &&& Int32.toUInt32 31)).toInt32) &&& (858993459 : Int32))) + (((((a0 - (((a0.toUInt32 >>> ((1 : Int32).toUInt32 &&& Int32.toUInt32 31)).toInt32) &&& (1431655765 : Int32))) &&& (858993459 : Int32)) + ((((a0 - (((a0.toUInt32 >>> ((1 : Int32).toUInt32 &&& Int32.toUInt32 31)).toInt32) &&& (1431655765 : Int32))).toUInt32 >>> ((2 : Int32).toUInt32 &&& Int32.toUInt32 31)).toInt32) &&& (858993459 : Int32))).toUInt32 >>> ((4 : Int32).toUInt32 &&& Int32.toUInt32 31)).toInt32)) &&& (252645135 : Int32)).toUInt32 >>> ((8 : Int32).toUInt32 &&& Int32.toUInt32 31)).toInt32)) + ((((((((a0 - (((a0.toUInt32 >>> ((1 : Int32).toUInt32 &&& Int32.toUInt32 31)).toInt32) &&& (1431655765 : Int32))) &&& (858993459 : Int32)) + ((((a0 - (((a0.toUInt32 >>> ((1 : Int32).toUInt32 &&& Int32.toUInt32 31)).toInt32) &&& (1431655765 : Int32))).toUInt32 >>> ((2 : Int32).toUInt32 &&& Int32.toUInt32 31)).toInt32) &&& (858993459 : Int32))) + (((((a0 - (((a0.toUInt32 >>> ((1 : Int32).toUInt32 &&& Int32.toUInt32 31)).toInt32) &&& (1431655765 : Int32))) &&& (858993459 : Int32)) + ((((a0 - (((a0.toUInt32 >>> ((1 : Int32).toUInt32 &&& Int32.toUInt32 31)).toInt32) &&& (1431655765 : Int32))).toUInt32 >>> ((2 : Int32).toUInt32 &&& Int32.toUInt32 31)).toInt32) &&& (858993459 : Int32))).toUInt32 >>> ((4 : Int32).toUInt32 &&& Int32.toUInt32 31)).toInt32)) &&& (252645135 : Int32)) + (((((((a0 - (((a0.toUInt32 >>> ((1 : Int32).toUInt32 &&& Int32.toUInt32 31)).toInt32) &&& (1431655765 : Int32))) &&& (858993459 : Int32)) + ((((a0 - (((a0.toUInt32 >>> ((1 : Int32).toUInt32 &&& Int32.toUInt32 31)).toInt32) &&& (1431655765 : Int32))).toUInt32 >>> ((2 : Int32).toUInt32 &&& Int32.toUInt32 31)).toInt32) &&& (858993459 : Int32))) + (((((a0 - (((a0.toUInt32 >>> ((1 : Int32).toUInt32 &&& Int32.toUInt32 31)).toInt32) &&& (1431655765 : Int32))) &&& (858993459 : Int32)) + ((((a0 - (((a0.toUInt32 >>> ((1 : Int32).toUInt32 &&& Int32.toUInt32 31)).toInt32) &&& (1431655765 : Int32))).toUInt32 >>> ((2 : Int32).toUInt32 &&& Int32.toUInt32 31)).toInt32) &&& (858993459 : Int32))).toUInt32 >>> ((4 : Int32).toUInt32 &&& Int32.toUInt32 31)).toInt32)) &&& (252645135 : Int32)).toUInt32 >>> ((8 : Int32).toUInt32 &&& Int32.toUInt32 31)).toInt32)).toUInt32 >>> ((16 : Int32).toUInt32 &&& Int32.toUInt32 31)).toInt32)) &&& (63 : Int32)) := rfl
def f_MK_wrong_L13 : Nat → Int32 → Int32 → SS → Option (Int32)
  | 0, _, _, _ => none
  | n + 1, x1, x2, S =>
    if (S.1 2 1) ≤ x2 then some x1 else
    (f_Board_doorsOf x2 S).bind fun o1 =>
    if oob x2 8 then none else
    (f_JI_bitCount (o1 ^^^ (S.1 5 x2.toNatClampNeg)) S).bind fun o3 =>
    f_MK_wrong_L13 n (x1 + o3) (x2 + 1) S
theorem f_MK_wrong_L13_s (n : Nat) (x1 : Int32) (x2 : Int32) (S : SS) : f_MK_wrong_L13 (n + 1) x1 x2 S =
    if (S.1 2 1) ≤ x2 then some x1 else
    (f_Board_doorsOf x2 S).bind fun o1 =>
    if oob x2 8 then none else
    (f_JI_bitCount (o1 ^^^ (S.1 5 x2.toNatClampNeg)) S).bind fun o3 =>
    f_MK_wrong_L13 n (x1 + o3) (x2 + 1) S := rfl
def f_MK_wrong (S : SS) : Option (Int32) :=
  if (S.1 0 4) = 0 then some (-1 : Int32) else
  (f_MK_wrong_L13 FU (0 : Int32) (0 : Int32) S).bind fun v1 =>
  some v1
theorem f_MK_wrong_s (S : SS) : f_MK_wrong S =
  if (S.1 0 4) = 0 then some (-1 : Int32) else
  (f_MK_wrong_L13 FU (0 : Int32) (0 : Int32) S).bind fun v1 =>
  some v1 := rfl
def f_MK_key (S : SS) : Option (Nat ⊕ (Int32 × SS)) :=
  if (S.1 2 1) < (8 : Int32) then some (.inr (((S.1 2 1) + (1 : Int32)) - (1 : Int32), wI (wI S 0 4 (0 : Int32)) 2 1 ((S.1 2 1) + (1 : Int32)))) else
  some (.inl 2)
theorem f_MK_key_s (S : SS) : f_MK_key S =
  if (S.1 2 1) < (8 : Int32) then some (.inr (((S.1 2 1) + (1 : Int32)) - (1 : Int32), wI (wI S 0 4 (0 : Int32)) 2 1 ((S.1 2 1) + (1 : Int32)))) else
  some (.inl 2) := rfl
def f_MK_door (S : SS) : Option (Nat ⊕ (Int32 × SS)) :=
  if (S.1 2 2) < (6 : Int32) then some (.inr (((S.1 2 2) + (1 : Int32)) - (1 : Int32), wI (wI S 0 4 (0 : Int32)) 2 2 ((S.1 2 2) + (1 : Int32)))) else
  some (.inl 2)
theorem f_MK_door_s (S : SS) : f_MK_door S =
  if (S.1 2 2) < (6 : Int32) then some (.inr (((S.1 2 2) + (1 : Int32)) - (1 : Int32), wI (wI S 0 4 (0 : Int32)) 2 2 ((S.1 2 2) + (1 : Int32)))) else
  some (.inl 2) := rfl
def f_MK_needKey (a1 : Int32) (S : SS) : Option (Nat ⊕ Unit) :=
  if a1 < 0 then some (.inl 1) else
  if a1 < (S.1 2 1) then some (.inr ()) else
  some (.inl 1)
theorem f_MK_needKey_s (a1 : Int32) (S : SS) : f_MK_needKey a1 S =
  if a1 < 0 then some (.inl 1) else
  if a1 < (S.1 2 1) then some (.inr ()) else
  some (.inl 1) := rfl
def f_MK_needDoor (a1 : Int32) (S : SS) : Option (Nat ⊕ Unit) :=
  if a1 < 0 then some (.inl 1) else
  if a1 < (S.1 2 2) then some (.inr ()) else
  some (.inl 1)
theorem f_MK_needDoor_s (a1 : Int32) (S : SS) : f_MK_needDoor a1 S =
  if a1 < 0 then some (.inl 1) else
  if a1 < (S.1 2 2) then some (.inr ()) else
  some (.inl 1) := rfl
def f_Board_mustOpen (a1 : Int32) (a2 : Int32) (S : SS) : Option (Int32) :=
  if oob a1 8 then none else
  if (((S.1 5 a1.toNatClampNeg) >>> (a2 &&& 31)) &&& (1 : Int32)) = 0 then some (0 : Int32) else
  some (1 : Int32)
theorem f_Board_mustOpen_s (a1 : Int32) (a2 : Int32) (S : SS) : f_Board_mustOpen a1 a2 S =
  if oob a1 8 then none else
  if (((S.1 5 a1.toNatClampNeg) >>> (a2 &&& 31)) &&& (1 : Int32)) = 0 then some (0 : Int32) else
  some (1 : Int32) := rfl
def f_Board_tell (a1 : Int32) (a2 : Int32) (a3 : Int32) (S : SS) : Option (SS) :=
  if a3 = 0 then
    (if oob a1 8 then none else
    some (wI S 5 a1.toNatClampNeg ((S.1 5 a1.toNatClampNeg) &&& (((1 : Int32) <<< (a2 &&& 31)) ^^^ (-1 : Int32)))))
  else
  if oob a1 8 then none else
  some (wI S 5 a1.toNatClampNeg ((S.1 5 a1.toNatClampNeg) ||| ((1 : Int32) <<< (a2 &&& 31))))
theorem f_Board_tell_s (a1 : Int32) (a2 : Int32) (a3 : Int32) (S : SS) : f_Board_tell a1 a2 a3 S =
  if a3 = 0 then
    (if oob a1 8 then none else
    some (wI S 5 a1.toNatClampNeg ((S.1 5 a1.toNatClampNeg) &&& (((1 : Int32) <<< (a2 &&& 31)) ^^^ (-1 : Int32)))))
  else
  if oob a1 8 then none else
  some (wI S 5 a1.toNatClampNeg ((S.1 5 a1.toNatClampNeg) ||| ((1 : Int32) <<< (a2 &&& 31)))) := rfl
def f_MK_must (a1 : Int32) (a2 : Int32) (a3 : Int32) (S : SS) : Option (Nat ⊕ (Int32 × SS)) :=
  (f_MK_needKey a1 S).bind fun o1 => Sum.elim (fun c6 => some (.inl c6)) (fun o1 =>
  (f_MK_needDoor a2 S).bind fun o2 => Sum.elim (fun c5 => some (.inl c5)) (fun o2 =>
  (f_Board_mustOpen a1 a2 (wI S 0 4 (0 : Int32))).bind fun o3 =>
  (f_Board_tell a1 a2 a3 (wI S 0 4 (0 : Int32))).bind fun o4 =>
  if o3 = 0 ∨ o3 = 1 then some (.inr (o3, o4)) else none) o2) o1
theorem f_MK_must_s (a1 : Int32) (a2 : Int32) (a3 : Int32) (S : SS) : f_MK_must a1 a2 a3 S =
  (f_MK_needKey a1 S).bind fun o1 => Sum.elim (fun c6 => some (.inl c6)) (fun o1 =>
  (f_MK_needDoor a2 S).bind fun o2 => Sum.elim (fun c5 => some (.inl c5)) (fun o2 =>
  (f_Board_mustOpen a1 a2 (wI S 0 4 (0 : Int32))).bind fun o3 =>
  (f_Board_tell a1 a2 a3 (wI S 0 4 (0 : Int32))).bind fun o4 =>
  if o3 = 0 ∨ o3 = 1 then some (.inr (o3, o4)) else none) o2) o1 := rfl
def f_MK_step (a1 : Int32) (S : SS) : Option (Nat ⊕ (Int32 × SS)) :=
  if a1 < 0 then some (.inl 1) else
  if a1 ≤ (7 : Int32) then some (.inr (S.1 1 2, wI (wI S 0 4 (0 : Int32)) 1 2 a1)) else
  some (.inl 1)
theorem f_MK_step_s (a1 : Int32) (S : SS) : f_MK_step a1 S =
  if a1 < 0 then some (.inl 1) else
  if a1 ≤ (7 : Int32) then some (.inr (S.1 1 2, wI (wI S 0 4 (0 : Int32)) 1 2 a1)) else
  some (.inl 1) := rfl
def f_MK_needDepth (a1 : Int32) (S : SS) : Option (Nat ⊕ Unit) :=
  if a1 < 0 then some (.inl 1) else
  if a1 < (S.1 1 1) then some (.inr ()) else
  some (.inl 1)
theorem f_MK_needDepth_s (a1 : Int32) (S : SS) : f_MK_needDepth a1 S =
  if a1 < 0 then some (.inl 1) else
  if a1 < (S.1 1 1) then some (.inr ()) else
  some (.inl 1) := rfl
def f_Law_pairBit (a0 : Int32) (a1 : Int32) (S : SS) : Option (Int64) :=
  some ((1 : Int64) <<< (((a0 * (8 : Int32)) + a1).toInt64 &&& 63))
theorem f_Law_pairBit_s (a0 : Int32) (a1 : Int32) (S : SS) : f_Law_pairBit a0 a1 S =
  some ((1 : Int64) <<< (((a0 * (8 : Int32)) + a1).toInt64 &&& 63)) := rfl
def f_Law_isBarred (a1 : Int32) (a2 : Int32) (S : SS) : Option (Int32) :=
  (f_Law_pairBit a1 a2 S).bind fun o1 =>
  if (lg_cmp ((S.2 1 4) &&& o1) (0 : Int64)) = 0 then some (0 : Int32) else
  some (1 : Int32)
theorem f_Law_isBarred_s (a1 : Int32) (a2 : Int32) (S : SS) : f_Law_isBarred a1 a2 S =
  (f_Law_pairBit a1 a2 S).bind fun o1 =>
  if (lg_cmp ((S.2 1 4) &&& o1) (0 : Int64)) = 0 then some (0 : Int32) else
  some (1 : Int32) := rfl
def f_Law_setBarred (a1 : Int32) (a2 : Int32) (a3 : Int32) (S : SS) : Option (SS) :=
  if a3 = 0 then
    ((f_Law_pairBit a1 a2 S).bind fun o1 =>
    some (wL S 1 4 ((S.2 1 4) &&& (o1 ^^^ (-1 : Int64)))))
  else
  (f_Law_pairBit a1 a2 S).bind fun o2 =>
  some (wL S 1 4 ((S.2 1 4) ||| o2))
theorem f_Law_setBarred_s (a1 : Int32) (a2 : Int32) (a3 : Int32) (S : SS) : f_Law_setBarred a1 a2 a3 S =
  if a3 = 0 then
    ((f_Law_pairBit a1 a2 S).bind fun o1 =>
    some (wL S 1 4 ((S.2 1 4) &&& (o1 ^^^ (-1 : Int64)))))
  else
  (f_Law_pairBit a1 a2 S).bind fun o2 =>
  some (wL S 1 4 ((S.2 1 4) ||| o2)) := rfl
def f_MK_bar (a1 : Int32) (a2 : Int32) (a3 : Int32) (S : SS) : Option (Nat ⊕ (Int32 × SS)) :=
  (f_MK_needDepth a1 S).bind fun o1 => Sum.elim (fun c6 => some (.inl c6)) (fun o1 =>
  (f_MK_needDepth a2 S).bind fun o2 => Sum.elim (fun c5 => some (.inl c5)) (fun o2 =>
  (f_Law_isBarred a1 a2 (wI S 0 4 (0 : Int32))).bind fun o3 =>
  (f_Law_setBarred a1 a2 a3 (wI S 0 4 (0 : Int32))).bind fun o4 =>
  if o3 = 0 ∨ o3 = 1 then some (.inr (o3, o4)) else none) o2) o1
theorem f_MK_bar_s (a1 : Int32) (a2 : Int32) (a3 : Int32) (S : SS) : f_MK_bar a1 a2 a3 S =
  (f_MK_needDepth a1 S).bind fun o1 => Sum.elim (fun c6 => some (.inl c6)) (fun o1 =>
  (f_MK_needDepth a2 S).bind fun o2 => Sum.elim (fun c5 => some (.inl c5)) (fun o2 =>
  (f_Law_isBarred a1 a2 (wI S 0 4 (0 : Int32))).bind fun o3 =>
  (f_Law_setBarred a1 a2 a3 (wI S 0 4 (0 : Int32))).bind fun o4 =>
  if o3 = 0 ∨ o3 = 1 then some (.inr (o3, o4)) else none) o2) o1 := rfl
def f_MK_top (a1 : Int32) (S : SS) : Option (Nat ⊕ (Int32 × SS)) :=
  if a1 < (1 : Int32) then some (.inl 1) else
  if a1 ≤ (8 : Int32) then some (.inr (S.1 1 3, wI (wI S 0 4 (0 : Int32)) 1 3 a1)) else
  some (.inl 1)
theorem f_MK_top_s (a1 : Int32) (S : SS) : f_MK_top a1 S =
  if a1 < (1 : Int32) then some (.inl 1) else
  if a1 ≤ (8 : Int32) then some (.inr (S.1 1 3, wI (wI S 0 4 (0 : Int32)) 1 3 a1)) else
  some (.inl 1) := rfl
def f_Law_mayFollow (a1 : Int32) (a2 : Int32) (S : SS) : Option (Int32) :=
  if (S.1 1 2) < (if 0 ≤ (a2 - a1) then (a2 - a1) else 0 - (a2 - a1)) then some (0 : Int32) else
  (f_Law_isBarred a1 a2 S).bind fun o1 =>
  if o1 = 0 then some (1 : Int32) else
  some (0 : Int32)
theorem f_Law_mayFollow_s (a1 : Int32) (a2 : Int32) (S : SS) : f_Law_mayFollow a1 a2 S =
  if (S.1 1 2) < (if 0 ≤ (a2 - a1) then (a2 - a1) else 0 - (a2 - a1)) then some (0 : Int32) else
  (f_Law_isBarred a1 a2 S).bind fun o1 =>
  if o1 = 0 then some (1 : Int32) else
  some (0 : Int32) := rfl
def f_Board_bit (a0 : Int32) (a1 : Int32) (S : SS) : Option (Int64) :=
  some ((1 : Int64) <<< (((a0 * (8 : Int32)) + a1).toInt64 &&& 63))
theorem f_Board_bit_s (a0 : Int32) (a1 : Int32) (S : SS) : f_Board_bit a0 a1 S =
  some ((1 : Int64) <<< (((a0 * (8 : Int32)) + a1).toInt64 &&& 63)) := rfl
def f_Board_rowFromCuts_L5 (x1 : Int32) : Nat → Int64 → Int32 → SS → Option (Int64)
  | 0, _, _, _ => none
  | n + 1, y2, x4, S =>
    if (S.1 1 0) ≤ x4 then some y2 else
    if oob x1 8 then none else
    if oob x4 6 then none else
    (f_Board_bit x4 (S.1 (10 + x1.toNatClampNeg) x4.toNatClampNeg) S).bind fun o3 =>
    f_Board_rowFromCuts_L5 x1 n (y2 ||| o3) (x4 + 1) S
theorem f_Board_rowFromCuts_L5_s (x1 : Int32) (n : Nat) (y2 : Int64) (x4 : Int32) (S : SS) : f_Board_rowFromCuts_L5 x1 (n + 1) y2 x4 S =
    if (S.1 1 0) ≤ x4 then some y2 else
    if oob x1 8 then none else
    if oob x4 6 then none else
    (f_Board_bit x4 (S.1 (10 + x1.toNatClampNeg) x4.toNatClampNeg) S).bind fun o3 =>
    f_Board_rowFromCuts_L5 x1 n (y2 ||| o3) (x4 + 1) S := rfl
def f_Board_rowFromCuts (a1 : Int32) (S : SS) : Option (Int64) :=
  (f_Board_rowFromCuts_L5 a1 FU (0 : Int64) (0 : Int32) S).bind fun v1 =>
  some v1
theorem f_Board_rowFromCuts_s (a1 : Int32) (S : SS) : f_Board_rowFromCuts a1 S =
  (f_Board_rowFromCuts_L5 a1 FU (0 : Int64) (0 : Int32) S).bind fun v1 =>
  some v1 := rfl
def f_Board_isTaken_L3 (y1 : Int64) (x3 : Int32) : Nat → Int32 → SS → Option (Int32 ⊕ Unit)
  | 0, _, _ => none
  | n + 1, x4, S =>
    if x3 ≤ x4 then some (.inr ()) else
    if oob x4 8 then none else
    if (lg_cmp (S.2 7 x4.toNatClampNeg) y1) = 0 then some (.inl (1 : Int32)) else
    f_Board_isTaken_L3 y1 x3 n (x4 + 1) S
theorem f_Board_isTaken_L3_s (y1 : Int64) (x3 : Int32) (n : Nat) (x4 : Int32) (S : SS) : f_Board_isTaken_L3 y1 x3 (n + 1) x4 S =
    if x3 ≤ x4 then some (.inr ()) else
    if oob x4 8 then none else
    if (lg_cmp (S.2 7 x4.toNatClampNeg) y1) = 0 then some (.inl (1 : Int32)) else
    f_Board_isTaken_L3 y1 x3 n (x4 + 1) S := rfl
def f_Board_isTaken (a1 : Int64) (a3 : Int32) (S : SS) : Option (Int32) :=
  (f_Board_isTaken_L3 a1 a3 FU (0 : Int32) S).bind fun v1 => Sum.elim (fun r2 => some r2) (fun v1 =>
  some (0 : Int32)) v1
theorem f_Board_isTaken_s (a1 : Int64) (a3 : Int32) (S : SS) : f_Board_isTaken a1 a3 S =
  (f_Board_isTaken_L3 a1 a3 FU (0 : Int32) S).bind fun v1 => Sum.elim (fun r2 => some r2) (fun v1 =>
  some (0 : Int32)) v1 := rfl
def f_JL_bitCount (a0 : Int64) (S : SS) : Option (Int32) :=
  some ((((((((((a0 - (((a0.toUInt64 >>> ((1 : Int32).toInt64.toUInt64 &&& Int64.toUInt64 63)).toInt64) &&& (6148914691236517205 : Int64))) &&& (3689348814741910323 : Int64)) + ((((a0 - (((a0.toUInt64 >>> ((1 : Int32).toInt64.toUInt64 &&& Int64.toUInt64 63)).toInt64) &&& (6148914691236517205 : Int64))).toUInt64 >>> ((2 : Int32).toInt64.toUInt64 &&& Int64.toUInt64 63)).toInt64) &&& (3689348814741910323 : Int64))) + (((((a0 - (((a0.toUInt64 >>> ((1 : Int32).toInt64.toUInt64 &&& Int64.toUInt64 63)).toInt64) &&& (6148914691236517205 : Int64))) &&& (3689348814741910323 : Int64)) + ((((a0 - (((a0.toUInt64 >>> ((1 : Int32).toInt64.toUInt64 &&& Int64.toUInt64 63)).toInt64) &&& (6148914691236517205 : Int64))).toUInt64 >>> ((2 : Int32).toInt64.toUInt64 &&& Int64.toUInt64 63)).toInt64) &&& (3689348814741910323 : Int64))).toUInt64 >>> ((4 : Int32).toInt64.toUInt64 &&& Int64.toUInt64 63)).toInt64)) &&& (1085102592571150095 : Int64)) + (((((((a0 - (((a0.toUInt64 >>> ((1 : Int32).toInt64.toUInt64 &&& Int64.toUInt64 63)).toInt64) &&& (6148914691236517205 : Int64))) &&& (3689348814741910323 : Int64)) + ((((a0 - (((a0.toUInt64 >>> ((1 : Int32).toInt64.toUInt64 &&& Int64.toUInt64 63)).toInt64) &&& (6148914691236517205 : Int64))).toUInt64 >>> ((2 : Int32).toInt64.toUInt64 &&& Int64.toUInt64 63)).toInt64) &&& (3689348814741910323 : Int64))) + (((((a0 - (((a0.toUInt64 >>> ((1 : Int32).toInt64.toUInt64 &&& Int64.toUInt64 63)).toInt64) &&& (6148914691236517205 : Int64))) &&& (3689348814741910323 : Int64)) + ((((a0 - (((a0.toUInt64 >>> ((1 : Int32).toInt64.toUInt64 &&& Int64.toUInt64 63)).toInt64) &&& (6148914691236517205 : Int64))).toUInt64 >>> ((2 : Int32).toInt64.toUInt64 &&& Int64.toUInt64 63)).toInt64) &&& (3689348814741910323 : Int64))).toUInt64 >>> ((4 : Int32).toInt64.toUInt64 &&& Int64.toUInt64 63)).toInt64)) &&& (1085102592571150095 : Int64)).toUInt64 >>> ((8 : Int32).toInt64.toUInt64 &&& Int64.toUInt64 63)).toInt64)) + ((((((((a0 - (((a0.toUInt64 >>> ((1 : Int32).toInt64.toUInt64 &&& Int64.toUInt64 63)).toInt64) &&& (6148914691236517205 : Int64))) &&& (3689348814741910323 : Int64)) + ((((a0 - (((a0.toUInt64 >>> ((1 : Int32).toInt64.toUInt64 &&& Int64.toUInt64 63)).toInt64) &&& (6148914691236517205 : Int64))).toUInt64 >>> ((2 : Int32).toInt64.toUInt64 &&& Int64.toUInt64 63)).toInt64) &&& (3689348814741910323 : Int64))) + (((((a0 - (((a0.toUInt64 >>> ((1 : Int32).toInt64.toUInt64 &&& Int64.toUInt64 63)).toInt64) &&& (6148914691236517205 : Int64))) &&& (3689348814741910323 : Int64)) + ((((a0 - (((a0.toUInt64 >>> ((1 : Int32).toInt64.toUInt64 &&& Int64.toUInt64 63)).toInt64) &&& (6148914691236517205 : Int64))).toUInt64 >>> ((2 : Int32).toInt64.toUInt64 &&& Int64.toUInt64 63)).toInt64) &&& (3689348814741910323 : Int64))).toUInt64 >>> ((4 : Int32).toInt64.toUInt64 &&& Int64.toUInt64 63)).toInt64)) &&& (1085102592571150095 : Int64)) + (((((((a0 - (((a0.toUInt64 >>> ((1 : Int32).toInt64.toUInt64 &&& Int64.toUInt64 63)).toInt64) &&& (6148914691236517205 : Int64))) &&& (3689348814741910323 : Int64)) + ((((a0 - (((a0.toUInt64 >>> ((1 : Int32).toInt64.toUInt64 &&& Int64.toUInt64 63)).toInt64) &&& (6148914691236517205 : Int64))).toUInt64 >>> ((2 : Int32).toInt64.toUInt64 &&& Int64.toUInt64 63)).toInt64) &&& (3689348814741910323 : Int64))) + (((((a0 - (((a0.toUInt64 >>> ((1 : Int32).toInt64.toUInt64 &&& Int64.toUInt64 63)).toInt64) &&& (6148914691236517205 : Int64))) &&& (3689348814741910323 : Int64)) + ((((a0 - (((a0.toUInt64 >>> ((1 : Int32).toInt64.toUInt64 &&& Int64.toUInt64 63)).toInt64) &&& (6148914691236517205 : Int64))).toUInt64 >>> ((2 : Int32).toInt64.toUInt64 &&& Int64.toUInt64 63)).toInt64) &&& (3689348814741910323 : Int64))).toUInt64 >>> ((4 : Int32).toInt64.toUInt64 &&& Int64.toUInt64 63)).toInt64)) &&& (1085102592571150095 : Int64)).toUInt64 >>> ((8 : Int32).toInt64.toUInt64 &&& Int64.toUInt64 63)).toInt64)).toUInt64 >>> ((16 : Int32).toInt64.toUInt64 &&& Int64.toUInt64 63)).toInt64)) + (((((((((a0 - (((a0.toUInt64 >>> ((1 : Int32).toInt64.toUInt64 &&& Int64.toUInt64 63)).toInt64) &&& (6148914691236517205 : Int64))) &&& (3689348814741910323 : Int64)) + ((((a0 - (((a0.toUInt64 >>> ((1 : Int32).toInt64.toUInt64 &&& Int64.toUInt64 63)).toInt64) &&& (6148914691236517205 : Int64))).toUInt64 >>> ((2 : Int32).toInt64.toUInt64 &&& Int64.toUInt64 63)).toInt64) &&& (3689348814741910323 : Int64))) + (((((a0 - (((a0.toUInt64 >>> ((1 : Int32).toInt64.toUInt64 &&& Int64.toUInt64 63)).toInt64) &&& (6148914691236517205 : Int64))) &&& (3689348814741910323 : Int64)) + ((((a0 - (((a0.toUInt64 >>> ((1 : Int32).toInt64.toUInt64 &&& Int64.toUInt64 63)).toInt64) &&& (6148914691236517205 : Int64))).toUInt64 >>> ((2 : Int32).toInt64.toUInt64 &&& Int64.toUInt64 63)).toInt64) &&& (3689348814741910323 : Int64))).toUInt64 >>> ((4 : Int32).toInt64.toUInt64 &&& Int64.toUInt64 63)).toInt64)) &&& (1085102592571150095 : Int64)) + (((((((a0 - (((a0.toUInt64 >>> ((1 : Int32).toInt64.toUInt64 &&& Int64.toUInt64 63)).toInt64) &&& (6148914691236517205 : Int64))) &&& (3689348814741910323 : Int64)) + ((((a0 - (((a0.toUInt64 >>> ((1 : Int32).toInt64.toUInt64 &&& Int64.toUInt64 63)).toInt64) &&& (6148914691236517205 : Int64))).toUInt64 >>> ((2 : Int32).toInt64.toUInt64 &&& Int64.toUInt64 63)).toInt64) &&& (3689348814741910323 : Int64))) + (((((a0 - (((a0.toUInt64 >>> ((1 : Int32).toInt64.toUInt64 &&& Int64.toUInt64 63)).toInt64) &&& (6148914691236517205 : Int64))) &&& (3689348814741910323 : Int64)) + ((((a0 - (((a0.toUInt64 >>> ((1 : Int32).toInt64.toUInt64 &&& Int64.toUInt64 63)).toInt64) &&& (6148914691236517205 : Int64))).toUInt64 >>> ((2 : Int32).toInt64.toUInt64 &&& Int64.toUInt64 63)).toInt64) &&& (3689348814741910323 : Int64))).toUInt64 >>> ((4 : Int32).toInt64.toUInt64 &&& Int64.toUInt64 63)).toInt64)) &&& (1085102592571150095 : Int64)).toUInt64 >>> ((8 : Int32).toInt64.toUInt64 &&& Int64.toUInt64 63)).toInt64)) + ((((((((a0 - (((a0.toUInt64 >>> ((1 : Int32).toInt64.toUInt64 &&& Int64.toUInt64 63)).toInt64) &&& (6148914691236517205 : Int64))) &&& (3689348814741910323 : Int64)) + ((((a0 - (((a0.toUInt64 >>> ((1 : Int32).toInt64.toUInt64 &&& Int64.toUInt64 63)).toInt64) &&& (6148914691236517205 : Int64))).toUInt64 >>> ((2 : Int32).toInt64.toUInt64 &&& Int64.toUInt64 63)).toInt64) &&& (3689348814741910323 : Int64))) + (((((a0 - (((a0.toUInt64 >>> ((1 : Int32).toInt64.toUInt64 &&& Int64.toUInt64 63)).toInt64) &&& (6148914691236517205 : Int64))) &&& (3689348814741910323 : Int64)) + ((((a0 - (((a0.toUInt64 >>> ((1 : Int32).toInt64.toUInt64 &&& Int64.toUInt64 63)).toInt64) &&& (6148914691236517205 : Int64))).toUInt64 >>> ((2 : Int32).toInt64.toUInt64 &&& Int64.toUInt64 63)).toInt64) &&& (3689348814741910323 : Int64))).toUInt64 >>> ((4 : Int32).toInt64.toUInt64 &&& Int64.toUInt64 63)).toInt64)) &&& (1085102592571150095 : Int64)) + (((((((a0 - (((a0.toUInt64 >>> ((1 : Int32).toInt64.toUInt64 &&& Int64.toUInt64 63)).toInt64) &&& (6148914691236517205 : Int64))) &&& (3689348814741910323 : Int64)) + ((((a0 - (((a0.toUInt64 >>> ((1 : Int32).toInt64.toUInt64 &&& Int64.toUInt64 63)).toInt64) &&& (6148914691236517205 : Int64))).toUInt64 >>> ((2 : Int32).toInt64.toUInt64 &&& Int64.toUInt64 63)).toInt64) &&& (3689348814741910323 : Int64))) + (((((a0 - (((a0.toUInt64 >>> ((1 : Int32).toInt64.toUInt64 &&& Int64.toUInt64 63)).toInt64) &&& (6148914691236517205 : Int64))) &&& (3689348814741910323 : Int64)) + ((((a0 - (((a0.toUInt64 >>> ((1 : Int32).toInt64.toUInt64 &&& Int64.toUInt64 63)).toInt64) &&& (6148914691236517205 : Int64))).toUInt64 >>> ((2 : Int32).toInt64.toUInt64 &&& Int64.toUInt64 63)).toInt64) &&& (3689348814741910323 : Int64))).toUInt64 >>> ((4 : Int32).toInt64.toUInt64 &&& Int64.toUInt64 63)).toInt64)) &&& (1085102592571150095 : Int64)).toUInt64 >>> ((8 : Int32).toInt64.toUInt64 &&& Int64.toUInt64 63)).toInt64)).toUInt64 >>> ((16 : Int32).toInt64.toUInt64 &&& Int64.toUInt64 63)).toInt64)).toUInt64 >>> ((32 : Int32).toInt64.toUInt64 &&& Int64.toUInt64 63)).toInt64)).toInt32) &&& (127 : Int32))
theorem f_JL_bitCount_s (a0 : Int64) (S : SS) : f_JL_bitCount a0 S =
  some ((((((((((a0 - (((a0.toUInt64 >>> ((1 : Int32).toInt64.toUInt64 &&& Int64.toUInt64 63)).toInt64) &&& (6148914691236517205 : Int64))) &&& (3689348814741910323 : Int64)) + ((((a0 - (((a0.toUInt64 >>> ((1 : Int32).toInt64.toUInt64 &&& Int64.toUInt64 63)).toInt64) &&& (6148914691236517205 : Int64))).toUInt64 >>> ((2 : Int32).toInt64.toUInt64 &&& Int64.toUInt64 63)).toInt64) &&& (3689348814741910323 : Int64))) + (((((a0 - (((a0.toUInt64 >>> ((1 : Int32).toInt64.toUInt64 &&& Int64.toUInt64 63)).toInt64) &&& (6148914691236517205 : Int64))) &&& (3689348814741910323 : Int64)) + ((((a0 - (((a0.toUInt64 >>> ((1 : Int32).toInt64.toUInt64 &&& Int64.toUInt64 63)).toInt64) &&& (6148914691236517205 : Int64))).toUInt64 >>> ((2 : Int32).toInt64.toUInt64 &&& Int64.toUInt64 63)).toInt64) &&& (3689348814741910323 : Int64))).toUInt64 >>> ((4 : Int32).toInt64.toUInt64 &&& Int64.toUInt64 63)).toInt64)) &&& (1085102592571150095 : Int64)) + (((((((a0 - (((a0.toUInt64 >>> ((1 : Int32).toInt64.toUInt64 &&& Int64.toUInt64 63)).toInt64) &&& (6148914691236517205 : Int64))) &&& (3689348814741910323 : Int64)) + ((((a0 - (((a0.toUInt64 >>> ((1 : Int32).toInt64.toUInt64 &&& Int64.toUInt64 63)).toInt64) &&& (6148914691236517205 : Int64))).toUInt64 >>> ((2 : Int32).toInt64.toUInt64 &&& Int64.toUInt64 63)).toInt64) &&& (3689348814741910323 : Int64))) + (((((a0 - (((a0.toUInt64 >>> ((1 : Int32).toInt64.toUInt64 &&& Int64.toUInt64 63)).toInt64) &&& (6148914691236517205 : Int64))) &&& (3689348814741910323 : Int64)) + ((((a0 - (((a0.toUInt64 >>> ((1 : Int32).toInt64.toUInt64 &&& Int64.toUInt64 63)).toInt64) &&& (6148914691236517205 : Int64))).toUInt64 >>> ((2 : Int32).toInt64.toUInt64 &&& Int64.toUInt64 63)).toInt64) &&& (3689348814741910323 : Int64))).toUInt64 >>> ((4 : Int32).toInt64.toUInt64 &&& Int64.toUInt64 63)).toInt64)) &&& (1085102592571150095 : Int64)).toUInt64 >>> ((8 : Int32).toInt64.toUInt64 &&& Int64.toUInt64 63)).toInt64)) + ((((((((a0 - (((a0.toUInt64 >>> ((1 : Int32).toInt64.toUInt64 &&& Int64.toUInt64 63)).toInt64) &&& (6148914691236517205 : Int64))) &&& (3689348814741910323 : Int64)) + ((((a0 - (((a0.toUInt64 >>> ((1 : Int32).toInt64.toUInt64 &&& Int64.toUInt64 63)).toInt64) &&& (6148914691236517205 : Int64))).toUInt64 >>> ((2 : Int32).toInt64.toUInt64 &&& Int64.toUInt64 63)).toInt64) &&& (3689348814741910323 : Int64))) + (((((a0 - (((a0.toUInt64 >>> ((1 : Int32).toInt64.toUInt64 &&& Int64.toUInt64 63)).toInt64) &&& (6148914691236517205 : Int64))) &&& (3689348814741910323 : Int64)) + ((((a0 - (((a0.toUInt64 >>> ((1 : Int32).toInt64.toUInt64 &&& Int64.toUInt64 63)).toInt64) &&& (6148914691236517205 : Int64))).toUInt64 >>> ((2 : Int32).toInt64.toUInt64 &&& Int64.toUInt64 63)).toInt64) &&& (3689348814741910323 : Int64))).toUInt64 >>> ((4 : Int32).toInt64.toUInt64 &&& Int64.toUInt64 63)).toInt64)) &&& (1085102592571150095 : Int64)) + (((((((a0 - (((a0.toUInt64 >>> ((1 : Int32).toInt64.toUInt64 &&& Int64.toUInt64 63)).toInt64) &&& (6148914691236517205 : Int64))) &&& (3689348814741910323 : Int64)) + ((((a0 - (((a0.toUInt64 >>> ((1 : Int32).toInt64.toUInt64 &&& Int64.toUInt64 63)).toInt64) &&& (6148914691236517205 : Int64))).toUInt64 >>> ((2 : Int32).toInt64.toUInt64 &&& Int64.toUInt64 63)).toInt64) &&& (3689348814741910323 : Int64))) + (((((a0 - (((a0.toUInt64 >>> ((1 : Int32).toInt64.toUInt64 &&& Int64.toUInt64 63)).toInt64) &&& (6148914691236517205 : Int64))) &&& (3689348814741910323 : Int64)) + ((((a0 - (((a0.toUInt64 >>> ((1 : Int32).toInt64.toUInt64 &&& Int64.toUInt64 63)).toInt64) &&& (6148914691236517205 : Int64))).toUInt64 >>> ((2 : Int32).toInt64.toUInt64 &&& Int64.toUInt64 63)).toInt64) &&& (3689348814741910323 : Int64))).toUInt64 >>> ((4 : Int32).toInt64.toUInt64 &&& Int64.toUInt64 63)).toInt64)) &&& (1085102592571150095 : Int64)).toUInt64 >>> ((8 : Int32).toInt64.toUInt64 &&& Int64.toUInt64 63)).toInt64)).toUInt64 >>> ((16 : Int32).toInt64.toUInt64 &&& Int64.toUInt64 63)).toInt64)) + (((((((((a0 - (((a0.toUInt64 >>> ((1 : Int32).toInt64.toUInt64 &&& Int64.toUInt64 63)).toInt64) &&& (6148914691236517205 : Int64))) &&& (3689348814741910323 : Int64)) + ((((a0 - (((a0.toUInt64 >>> ((1 : Int32).toInt64.toUInt64 &&& Int64.toUInt64 63)).toInt64) &&& (6148914691236517205 : Int64))).toUInt64 >>> ((2 : Int32).toInt64.toUInt64 &&& Int64.toUInt64 63)).toInt64) &&& (3689348814741910323 : Int64))) + (((((a0 - (((a0.toUInt64 >>> ((1 : Int32).toInt64.toUInt64 &&& Int64.toUInt64 63)).toInt64) &&& (6148914691236517205 : Int64))) &&& (3689348814741910323 : Int64)) + ((((a0 - (((a0.toUInt64 >>> ((1 : Int32).toInt64.toUInt64 &&& Int64.toUInt64 63)).toInt64) &&& (6148914691236517205 : Int64))).toUInt64 >>> ((2 : Int32).toInt64.toUInt64 &&& Int64.toUInt64 63)).toInt64) &&& (3689348814741910323 : Int64))).toUInt64 >>> ((4 : Int32).toInt64.toUInt64 &&& Int64.toUInt64 63)).toInt64)) &&& (1085102592571150095 : Int64)) + (((((((a0 - (((a0.toUInt64 >>> ((1 : Int32).toInt64.toUInt64 &&& Int64.toUInt64 63)).toInt64) &&& (6148914691236517205 : Int64))) &&& (3689348814741910323 : Int64)) + ((((a0 - (((a0.toUInt64 >>> ((1 : Int32).toInt64.toUInt64 &&& Int64.toUInt64 63)).toInt64) &&& (6148914691236517205 : Int64))).toUInt64 >>> ((2 : Int32).toInt64.toUInt64 &&& Int64.toUInt64 63)).toInt64) &&& (3689348814741910323 : Int64))) + (((((a0 - (((a0.toUInt64 >>> ((1 : Int32).toInt64.toUInt64 &&& Int64.toUInt64 63)).toInt64) &&& (6148914691236517205 : Int64))) &&& (3689348814741910323 : Int64)) + ((((a0 - (((a0.toUInt64 >>> ((1 : Int32).toInt64.toUInt64 &&& Int64.toUInt64 63)).toInt64) &&& (6148914691236517205 : Int64))).toUInt64 >>> ((2 : Int32).toInt64.toUInt64 &&& Int64.toUInt64 63)).toInt64) &&& (3689348814741910323 : Int64))).toUInt64 >>> ((4 : Int32).toInt64.toUInt64 &&& Int64.toUInt64 63)).toInt64)) &&& (1085102592571150095 : Int64)).toUInt64 >>> ((8 : Int32).toInt64.toUInt64 &&& Int64.toUInt64 63)).toInt64)) + ((((((((a0 - (((a0.toUInt64 >>> ((1 : Int32).toInt64.toUInt64 &&& Int64.toUInt64 63)).toInt64) &&& (6148914691236517205 : Int64))) &&& (3689348814741910323 : Int64)) + ((((a0 - (((a0.toUInt64 >>> ((1 : Int32).toInt64.toUInt64 &&& Int64.toUInt64 63)).toInt64) &&& (6148914691236517205 : Int64))).toUInt64 >>> ((2 : Int32).toInt64.toUInt64 &&& Int64.toUInt64 63)).toInt64) &&& (3689348814741910323 : Int64))) + (((((a0 - (((a0.toUInt64 >>> ((1 : Int32).toInt64.toUInt64 &&& Int64.toUInt64 63)).toInt64) &&& (6148914691236517205 : Int64))) &&& (3689348814741910323 : Int64)) + ((((a0 - (((a0.toUInt64 >>> ((1 : Int32).toInt64.toUInt64 &&& Int64.toUInt64 63)).toInt64) &&& (6148914691236517205 : Int64))).toUInt64 >>> ((2 : Int32).toInt64.toUInt64 &&& Int64.toUInt64 63)).toInt64) &&& (3689348814741910323 : Int64))).toUInt64 >>> ((4 : Int32).toInt64.toUInt64 &&& Int64.toUInt64 63)).toInt64)) &&& (1085102592571150095 : Int64)) + (((((((a0 - (((a0.toUInt64 >>> ((1 : Int32).toInt64.toUInt64 &&& Int64.toUInt64 63)).toInt64) &&& (6148914691236517205 : Int64))) &&& (3689348814741910323 : Int64)) + ((((a0 - (((a0.toUInt64 >>> ((1 : Int32).toInt64.toUInt64 &&& Int64.toUInt64 63)).toInt64) &&& (6148914691236517205 : Int64))).toUInt64 >>> ((2 : Int32).toInt64.toUInt64 &&& Int64.toUInt64 63)).toInt64) &&& (3689348814741910323 : Int64))) + (((((a0 - (((a0.toUInt64 >>> ((1 : Int32).toInt64.toUInt64 &&& Int64.toUInt64 63)).toInt64) &&& (6148914691236517205 : Int64))) &&& (3689348814741910323 : Int64)) + ((((a0 - (((a0.toUInt64 >>> ((1 : Int32).toInt64.toUInt64 &&& Int64.toUInt64 63)).toInt64) &&& (6148914691236517205 : Int64))).toUInt64 >>> ((2 : Int32).toInt64.toUInt64 &&& Int64.toUInt64 63)).toInt64) &&& (3689348814741910323 : Int64))).toUInt64 >>> ((4 : Int32).toInt64.toUInt64 &&& Int64.toUInt64 63)).toInt64)) &&& (1085102592571150095 : Int64)).toUInt64 >>> ((8 : Int32).toInt64.toUInt64 &&& Int64.toUInt64 63)).toInt64)).toUInt64 >>> ((16 : Int32).toInt64.toUInt64 &&& Int64.toUInt64 63)).toInt64)).toUInt64 >>> ((32 : Int32).toInt64.toUInt64 &&& Int64.toUInt64 63)).toInt64)).toInt32) &&& (127 : Int32)) := rfl
def f_Board_isAboveTop_L2 (y1 : Int64) : Nat → Int32 → SS → Option (Int32 ⊕ Unit)
  | 0, _, _ => none
  | n + 1, x3, S =>
    if (S.1 1 0) ≤ x3 then some (.inr ()) else
    (f_JL_bitCount (((y1.toUInt64 >>> ((x3 * (8 : Int32)).toInt64.toUInt64 &&& Int64.toUInt64 63)).toInt64) &&& (255 : Int64)) S).bind fun o1 =>
    if o1 ≤ (S.1 1 3) then f_Board_isAboveTop_L2 y1 n (x3 + 1) S else
    some (.inl (1 : Int32))
theorem f_Board_isAboveTop_L2_s (y1 : Int64) (n : Nat) (x3 : Int32) (S : SS) : f_Board_isAboveTop_L2 y1 (n + 1) x3 S =
    if (S.1 1 0) ≤ x3 then some (.inr ()) else
    (f_JL_bitCount (((y1.toUInt64 >>> ((x3 * (8 : Int32)).toInt64.toUInt64 &&& Int64.toUInt64 63)).toInt64) &&& (255 : Int64)) S).bind fun o1 =>
    if o1 ≤ (S.1 1 3) then f_Board_isAboveTop_L2 y1 n (x3 + 1) S else
    some (.inl (1 : Int32)) := rfl
def f_Board_isAboveTop (a1 : Int64) (S : SS) : Option (Int32) :=
  (f_Board_isAboveTop_L2 a1 FU (0 : Int32) S).bind fun v1 => Sum.elim (fun r2 => some r2) (fun v1 =>
  some (0 : Int32)) v1
theorem f_Board_isAboveTop_s (a1 : Int64) (S : SS) : f_Board_isAboveTop a1 S =
  (f_Board_isAboveTop_L2 a1 FU (0 : Int32) S).bind fun v1 => Sum.elim (fun r2 => some r2) (fun v1 =>
  some (0 : Int32)) v1 := rfl
def f_Board_strangerFits_L3 (y1 : Int64) (x3 : Int32) (x4 : Int32) : Nat → Int32 → SS → Option (Int32 ⊕ Unit)
  | 0, _, _ => none
  | n + 1, x5, S =>
    if x4 ≤ x5 then some (.inr ()) else
    (f_Board_mustOpen x5 x3 S).bind fun o1 =>
    if o1 = 0 then
      (if oob x5 8 then none else
      (f_Board_isWithin (S.2 7 x5.toNatClampNeg) y1 S).bind fun o3 =>
      if o3 = 0 then f_Board_strangerFits_L3 y1 x3 x4 n (x5 + 1) S else
      some (.inl (1 : Int32)))
    else
    f_Board_strangerFits_L3 y1 x3 x4 n (x5 + 1) S
theorem f_Board_strangerFits_L3_s (y1 : Int64) (x3 : Int32) (x4 : Int32) (n : Nat) (x5 : Int32) (S : SS) : f_Board_strangerFits_L3 y1 x3 x4 (n + 1) x5 S =
    if x4 ≤ x5 then some (.inr ()) else
    (f_Board_mustOpen x5 x3 S).bind fun o1 =>
    if o1 = 0 then
      (if oob x5 8 then none else
      (f_Board_isWithin (S.2 7 x5.toNatClampNeg) y1 S).bind fun o3 =>
      if o3 = 0 then f_Board_strangerFits_L3 y1 x3 x4 n (x5 + 1) S else
      some (.inl (1 : Int32)))
    else
    f_Board_strangerFits_L3 y1 x3 x4 n (x5 + 1) S := rfl
def f_Board_strangerFits (a1 : Int64) (a3 : Int32) (a4 : Int32) (S : SS) : Option (Int32) :=
  (f_Board_strangerFits_L3 a1 a3 a4 FU (0 : Int32) S).bind fun v1 => Sum.elim (fun r2 => some r2) (fun v1 =>
  some (0 : Int32)) v1
theorem f_Board_strangerFits_s (a1 : Int64) (a3 : Int32) (a4 : Int32) (S : SS) : f_Board_strangerFits a1 a3 a4 S =
  (f_Board_strangerFits_L3 a1 a3 a4 FU (0 : Int32) S).bind fun v1 => Sum.elim (fun r2 => some r2) (fun v1 =>
  some (0 : Int32)) v1 := rfl
def f_Board_doorAccepts (a1 : Int32) (a2 : Int32) (S : SS) : Option (Int32 × SS) :=
  if oob a2 8 then none else
  if oob a2 9 then none else
  if oob a1 6 then none else
  (f_Board_mustOpen a2 a1 S).bind fun o4 =>
  if o4 = 0 then
    ((f_Board_isWithin (S.2 7 a2.toNatClampNeg) (S.2 (18 + a2.toNatClampNeg) a1.toNatClampNeg) S).bind fun o5 =>
    if o5 = 0 then
      (if oob (a2 + (1 : Int32)) 9 then none else
      some ((1 : Int32), wL S (18 + (a2 + (1 : Int32)).toNatClampNeg) a1.toNatClampNeg (S.2 (18 + a2.toNatClampNeg) a1.toNatClampNeg)))
    else
    some ((0 : Int32), S))
  else
  (f_Board_isAboveTop ((S.2 (18 + a2.toNatClampNeg) a1.toNatClampNeg) ||| (S.2 7 a2.toNatClampNeg)) S).bind fun o7 =>
  if o7 = 0 then
    ((f_Board_strangerFits ((S.2 (18 + a2.toNatClampNeg) a1.toNatClampNeg) ||| (S.2 7 a2.toNatClampNeg)) a1 a2 S).bind fun o8 =>
    if o8 = 0 then
      (if oob (a2 + (1 : Int32)) 9 then none else
      some ((1 : Int32), wL S (18 + (a2 + (1 : Int32)).toNatClampNeg) a1.toNatClampNeg ((S.2 (18 + a2.toNatClampNeg) a1.toNatClampNeg) ||| (S.2 7 a2.toNatClampNeg))))
    else
    some ((0 : Int32), S))
  else
  some ((0 : Int32), S)
theorem f_Board_doorAccepts_s (a1 : Int32) (a2 : Int32) (S : SS) : f_Board_doorAccepts a1 a2 S =
  if oob a2 8 then none else
  if oob a2 9 then none else
  if oob a1 6 then none else
  (f_Board_mustOpen a2 a1 S).bind fun o4 =>
  if o4 = 0 then
    ((f_Board_isWithin (S.2 7 a2.toNatClampNeg) (S.2 (18 + a2.toNatClampNeg) a1.toNatClampNeg) S).bind fun o5 =>
    if o5 = 0 then
      (if oob (a2 + (1 : Int32)) 9 then none else
      some ((1 : Int32), wL S (18 + (a2 + (1 : Int32)).toNatClampNeg) a1.toNatClampNeg (S.2 (18 + a2.toNatClampNeg) a1.toNatClampNeg)))
    else
    some ((0 : Int32), S))
  else
  (f_Board_isAboveTop ((S.2 (18 + a2.toNatClampNeg) a1.toNatClampNeg) ||| (S.2 7 a2.toNatClampNeg)) S).bind fun o7 =>
  if o7 = 0 then
    ((f_Board_strangerFits ((S.2 (18 + a2.toNatClampNeg) a1.toNatClampNeg) ||| (S.2 7 a2.toNatClampNeg)) a1 a2 S).bind fun o8 =>
    if o8 = 0 then
      (if oob (a2 + (1 : Int32)) 9 then none else
      some ((1 : Int32), wL S (18 + (a2 + (1 : Int32)).toNatClampNeg) a1.toNatClampNeg ((S.2 (18 + a2.toNatClampNeg) a1.toNatClampNeg) ||| (S.2 7 a2.toNatClampNeg))))
    else
    some ((0 : Int32), S))
  else
  some ((0 : Int32), S) := rfl
def f_Board_accepts_L27 (x1 : Int32) : Nat → Int32 → SS → Option ((Int32 × SS) ⊕ SS)
  | 0, _, _ => none
  | n + 1, x4, S =>
    if (S.1 2 2) ≤ x4 then some (.inr S) else
    (f_Board_doorAccepts x4 x1 S).bind fun o1 =>
    if o1.1 = 0 then some (.inl ((0 : Int32), o1.2)) else
    f_Board_accepts_L27 x1 n (x4 + 1) o1.2
theorem f_Board_accepts_L27_s (x1 : Int32) (n : Nat) (x4 : Int32) (S : SS) : f_Board_accepts_L27 x1 (n + 1) x4 S =
    if (S.1 2 2) ≤ x4 then some (.inr S) else
    (f_Board_doorAccepts x4 x1 S).bind fun o1 =>
    if o1.1 = 0 then some (.inl ((0 : Int32), o1.2)) else
    f_Board_accepts_L27 x1 n (x4 + 1) o1.2 := rfl
def f_Board_accepts (a1 : Int32) (S : SS) : Option (Int32 × SS) :=
  (f_Board_rowFromCuts a1 S).bind fun o1 =>
  (f_Board_isTaken o1 a1 S).bind fun o2 =>
  if o2 = 0 then
    (if oob a1 8 then none else
    (f_Board_accepts_L27 a1 FU (0 : Int32) (wL S 7 a1.toNatClampNeg o1)).bind fun v4 => Sum.elim (fun r5 => some r5) (fun v4 =>
    some ((1 : Int32), v4)) v4)
  else
  some ((0 : Int32), S)
theorem f_Board_accepts_s (a1 : Int32) (S : SS) : f_Board_accepts a1 S =
  (f_Board_rowFromCuts a1 S).bind fun o1 =>
  (f_Board_isTaken o1 a1 S).bind fun o2 =>
  if o2 = 0 then
    (if oob a1 8 then none else
    (f_Board_accepts_L27 a1 FU (0 : Int32) (wL S 7 a1.toNatClampNeg o1)).bind fun v4 => Sum.elim (fun r5 => some r5) (fun v4 =>
    some ((1 : Int32), v4)) v4)
  else
  some ((0 : Int32), S) := rfl
def f_Search_stands (S : SS) : Option (Int32 × SS) :=
  if oob (S.1 3 3) 8 then none else
  if (S.1 3 4) ≤ 0 then
    (if (S.1 3 4) < ((S.1 1 0) - (1 : Int32)) then some ((1 : Int32), S) else
    (f_Board_accepts (S.1 3 3) S).bind fun o2 =>
    if o2.1 = 0 then some ((0 : Int32), o2.2) else
    some ((1 : Int32), o2.2))
  else
  if oob ((S.1 3 4) - (1 : Int32)) 6 then none else
  if oob (S.1 3 4) 6 then none else
  (f_Law_mayFollow (S.1 (10 + (S.1 3 3).toNatClampNeg) ((S.1 3 4) - (1 : Int32)).toNatClampNeg) (S.1 (10 + (S.1 3 3).toNatClampNeg) (S.1 3 4).toNatClampNeg) S).bind fun o5 =>
  if o5 = 0 then some ((0 : Int32), S) else
  if (S.1 3 4) < ((S.1 1 0) - (1 : Int32)) then some ((1 : Int32), S) else
  (f_Board_accepts (S.1 3 3) S).bind fun o6 =>
  if o6.1 = 0 then some ((0 : Int32), o6.2) else
  some ((1 : Int32), o6.2)
theorem f_Search_stands_s (S : SS) : f_Search_stands S =
  if oob (S.1 3 3) 8 then none else
  if (S.1 3 4) ≤ 0 then
    (if (S.1 3 4) < ((S.1 1 0) - (1 : Int32)) then some ((1 : Int32), S) else
    (f_Board_accepts (S.1 3 3) S).bind fun o2 =>
    if o2.1 = 0 then some ((0 : Int32), o2.2) else
    some ((1 : Int32), o2.2))
  else
  if oob ((S.1 3 4) - (1 : Int32)) 6 then none else
  if oob (S.1 3 4) 6 then none else
  (f_Law_mayFollow (S.1 (10 + (S.1 3 3).toNatClampNeg) ((S.1 3 4) - (1 : Int32)).toNatClampNeg) (S.1 (10 + (S.1 3 3).toNatClampNeg) (S.1 3 4).toNatClampNeg) S).bind fun o5 =>
  if o5 = 0 then some ((0 : Int32), S) else
  if (S.1 3 4) < ((S.1 1 0) - (1 : Int32)) then some ((1 : Int32), S) else
  (f_Board_accepts (S.1 3 3) S).bind fun o6 =>
  if o6.1 = 0 then some ((0 : Int32), o6.2) else
  some ((1 : Int32), o6.2) := rfl
def f_Search_goBack_L7 : Nat → SS → Option ((Int32 × SS) ⊕ SS)
  | 0, _ => none
  | n + 1, S =>
    if (S.1 3 4) < 0 then some (.inr S) else
    if oob (S.1 3 3) 8 then none else
    if oob (S.1 3 4) 6 then none else
    if ((S.1 1 1) - (1 : Int32)) ≤ (S.1 (10 + (S.1 3 3).toNatClampNeg) (S.1 3 4).toNatClampNeg) then f_Search_goBack_L7 n (wI S 3 4 ((S.1 3 4) - (1 : Int32))) else
    some (.inl ((1 : Int32), S))
theorem f_Search_goBack_L7_s (n : Nat) (S : SS) : f_Search_goBack_L7 (n + 1) S =
    if (S.1 3 4) < 0 then some (.inr S) else
    if oob (S.1 3 3) 8 then none else
    if oob (S.1 3 4) 6 then none else
    if ((S.1 1 1) - (1 : Int32)) ≤ (S.1 (10 + (S.1 3 3).toNatClampNeg) (S.1 3 4).toNatClampNeg) then f_Search_goBack_L7 n (wI S 3 4 ((S.1 3 4) - (1 : Int32))) else
    some (.inl ((1 : Int32), S)) := rfl
def f_Search_goBack_L0 : Nat → SS → Option ((Int32 × SS) ⊕ SS)
  | 0, _ => none
  | n + 1, S =>
    if (S.1 3 3) < 0 then some (.inr S) else
    (f_Search_goBack_L7 FU S).bind fun v1 => Sum.elim (fun r2 => some (.inl r2)) (fun v1 =>
    f_Search_goBack_L0 n (wI (wI v1 3 4 ((v1.1 1 0) - (1 : Int32))) 3 3 ((v1.1 3 3) - (1 : Int32)))) v1
theorem f_Search_goBack_L0_s (n : Nat) (S : SS) : f_Search_goBack_L0 (n + 1) S =
    if (S.1 3 3) < 0 then some (.inr S) else
    (f_Search_goBack_L7 FU S).bind fun v1 => Sum.elim (fun r2 => some (.inl r2)) (fun v1 =>
    f_Search_goBack_L0 n (wI (wI v1 3 4 ((v1.1 1 0) - (1 : Int32))) 3 3 ((v1.1 3 3) - (1 : Int32)))) v1 := rfl
def f_Search_goBack (S : SS) : Option (Int32 × SS) :=
  (f_Search_goBack_L0 FU S).bind fun v1 => Sum.elim (fun r2 => some r2) (fun v1 =>
  some ((0 : Int32), v1)) v1
theorem f_Search_goBack_s (S : SS) : f_Search_goBack S =
  (f_Search_goBack_L0 FU S).bind fun v1 => Sum.elim (fun r2 => some r2) (fun v1 =>
  some ((0 : Int32), v1)) v1 := rfl
def f_Search_goOn (S : SS) : Option (Int32 × SS) :=
  if ((S.1 1 0) - (1 : Int32)) ≤ (S.1 3 4) then
    (if ((S.1 2 1) - (1 : Int32)) ≤ (S.1 3 3) then some ((0 : Int32), S) else
    if oob ((S.1 3 3) + (1 : Int32)) 8 then none else
    if oob (0 : Int32) 6 then none else
    some ((1 : Int32), wI (wI (wI S 3 3 ((S.1 3 3) + (1 : Int32))) 3 4 (0 : Int32)) (10 + ((S.1 3 3) + (1 : Int32)).toNatClampNeg) (0 : Int32).toNatClampNeg (-1 : Int32)))
  else
  if oob (S.1 3 3) 8 then none else
  if oob ((S.1 3 4) + (1 : Int32)) 6 then none else
  some ((1 : Int32), wI (wI S 3 4 ((S.1 3 4) + (1 : Int32))) (10 + (S.1 3 3).toNatClampNeg) ((S.1 3 4) + (1 : Int32)).toNatClampNeg (-1 : Int32))
theorem f_Search_goOn_s (S : SS) : f_Search_goOn S =
  if ((S.1 1 0) - (1 : Int32)) ≤ (S.1 3 4) then
    (if ((S.1 2 1) - (1 : Int32)) ≤ (S.1 3 3) then some ((0 : Int32), S) else
    if oob ((S.1 3 3) + (1 : Int32)) 8 then none else
    if oob (0 : Int32) 6 then none else
    some ((1 : Int32), wI (wI (wI S 3 3 ((S.1 3 3) + (1 : Int32))) 3 4 (0 : Int32)) (10 + ((S.1 3 3) + (1 : Int32)).toNatClampNeg) (0 : Int32).toNatClampNeg (-1 : Int32)))
  else
  if oob (S.1 3 3) 8 then none else
  if oob ((S.1 3 4) + (1 : Int32)) 6 then none else
  some ((1 : Int32), wI (wI S 3 4 ((S.1 3 4) + (1 : Int32))) (10 + (S.1 3 3).toNatClampNeg) ((S.1 3 4) + (1 : Int32)).toNatClampNeg (-1 : Int32)) := rfl
def f_Search_look_L33 (x1 : Int32) : Nat → SS → Option ((Int32 × SS) ⊕ SS)
  | 0, _ => none
  | n + 1, S =>
    if x1 ≤ (S.1 3 2) then some (.inr S) else
    if oob (S.1 3 3) 8 then none else
    if oob (S.1 3 4) 6 then none else
    (f_Search_stands (wI (wI S 3 2 ((S.1 3 2) + (1 : Int32))) (10 + (S.1 3 3).toNatClampNeg) (S.1 3 4).toNatClampNeg (((wI S 3 2 ((S.1 3 2) + (1 : Int32))).1 (10 + (S.1 3 3).toNatClampNeg) (S.1 3 4).toNatClampNeg) + (1 : Int32)))).bind fun o3 =>
    if o3.1 = 0 then
      ((f_Search_goBack o3.2).bind fun o4 =>
      if o4.1 = 0 then some (.inl ((0 : Int32), o4.2)) else
      f_Search_look_L33 x1 n o4.2)
    else
    (f_Search_goOn o3.2).bind fun o5 =>
    if o5.1 = 0 then some (.inl ((1 : Int32), o5.2)) else
    f_Search_look_L33 x1 n o5.2
theorem f_Search_look_L33_s (x1 : Int32) (n : Nat) (S : SS) : f_Search_look_L33 x1 (n + 1) S =
    if x1 ≤ (S.1 3 2) then some (.inr S) else
    if oob (S.1 3 3) 8 then none else
    if oob (S.1 3 4) 6 then none else
    (f_Search_stands (wI (wI S 3 2 ((S.1 3 2) + (1 : Int32))) (10 + (S.1 3 3).toNatClampNeg) (S.1 3 4).toNatClampNeg (((wI S 3 2 ((S.1 3 2) + (1 : Int32))).1 (10 + (S.1 3 3).toNatClampNeg) (S.1 3 4).toNatClampNeg) + (1 : Int32)))).bind fun o3 =>
    if o3.1 = 0 then
      ((f_Search_goBack o3.2).bind fun o4 =>
      if o4.1 = 0 then some (.inl ((0 : Int32), o4.2)) else
      f_Search_look_L33 x1 n o4.2)
    else
    (f_Search_goOn o3.2).bind fun o5 =>
    if o5.1 = 0 then some (.inl ((1 : Int32), o5.2)) else
    f_Search_look_L33 x1 n o5.2 := rfl
def f_Search_look (a1 : Int32) (S : SS) : Option (Int32 × SS) :=
  if oob (0 : Int32) 8 then none else
  if oob (0 : Int32) 6 then none else
  (f_Search_look_L33 a1 FU (wI (wI (wI (wI S 3 2 (0 : Int32)) 3 3 (0 : Int32)) 3 4 (0 : Int32)) (10 + (0 : Int32).toNatClampNeg) (0 : Int32).toNatClampNeg (-1 : Int32))).bind fun v3 => Sum.elim (fun r4 => some r4) (fun v3 =>
  some ((2 : Int32), v3)) v3
theorem f_Search_look_s (a1 : Int32) (S : SS) : f_Search_look a1 S =
  if oob (0 : Int32) 8 then none else
  if oob (0 : Int32) 6 then none else
  (f_Search_look_L33 a1 FU (wI (wI (wI (wI S 3 2 (0 : Int32)) 3 3 (0 : Int32)) 3 4 (0 : Int32)) (10 + (0 : Int32).toNatClampNeg) (0 : Int32).toNatClampNeg (-1 : Int32))).bind fun v3 => Sum.elim (fun r4 => some r4) (fun v3 =>
  some ((2 : Int32), v3)) v3 := rfl
def f_MK_run (a1 : Int32) (S : SS) : Option (Nat ⊕ (Int32 × SS)) :=
  if a1 < 0 then some (.inl 1) else
  if a1 ≤ (200000 : Int32) then
    (if (S.1 2 1) = 0 then some (.inl 2) else
    (f_Search_look a1 S).bind fun o1 =>
    if o1.1 = (1 : Int32) then some (.inr (o1.1, wI o1.2 0 4 (1 : Int32))) else
    some (.inr (o1.1, wI o1.2 0 4 (0 : Int32))))
  else
  some (.inl 1)
theorem f_MK_run_s (a1 : Int32) (S : SS) : f_MK_run a1 S =
  if a1 < 0 then some (.inl 1) else
  if a1 ≤ (200000 : Int32) then
    (if (S.1 2 1) = 0 then some (.inl 2) else
    (f_Search_look a1 S).bind fun o1 =>
    if o1.1 = (1 : Int32) then some (.inr (o1.1, wI o1.2 0 4 (1 : Int32))) else
    some (.inr (o1.1, wI o1.2 0 4 (0 : Int32))))
  else
  some (.inl 1) := rfl
def f_MK_needPin (a1 : Int32) (S : SS) : Option (Nat ⊕ Unit) :=
  if a1 < 0 then some (.inl 1) else
  if a1 < (S.1 1 0) then some (.inr ()) else
  some (.inl 1)
theorem f_MK_needPin_s (a1 : Int32) (S : SS) : f_MK_needPin a1 S =
  if a1 < 0 then some (.inl 1) else
  if a1 < (S.1 1 0) then some (.inr ()) else
  some (.inl 1) := rfl
def f_MK_cut (a1 : Int32) (a2 : Int32) (S : SS) : Option (Nat ⊕ Int32) :=
  (f_MK_needKey a1 S).bind fun o1 => Sum.elim (fun c6 => some (.inl c6)) (fun o1 =>
  (f_MK_needPin a2 S).bind fun o2 => Sum.elim (fun c5 => some (.inl c5)) (fun o2 =>
  if (S.1 0 4) = 0 then some (.inr (-1 : Int32)) else
  if oob a1 8 then none else
  if oob a2 6 then none else
  some (.inr (S.1 (10 + a1.toNatClampNeg) a2.toNatClampNeg))) o2) o1
theorem f_MK_cut_s (a1 : Int32) (a2 : Int32) (S : SS) : f_MK_cut a1 a2 S =
  (f_MK_needKey a1 S).bind fun o1 => Sum.elim (fun c6 => some (.inl c6)) (fun o1 =>
  (f_MK_needPin a2 S).bind fun o2 => Sum.elim (fun c5 => some (.inl c5)) (fun o2 =>
  if (S.1 0 4) = 0 then some (.inr (-1 : Int32)) else
  if oob a1 8 then none else
  if oob a2 6 then none else
  some (.inr (S.1 (10 + a1.toNatClampNeg) a2.toNatClampNeg))) o2) o1 := rfl
def f_Board_doorsHolding (a1 : Int32) (a2 : Int32) (S : SS) : Option (Int32) :=
  (f_Board_bit a1 a2 S).bind fun o1 =>
  (f_Board_doorsFitted o1 S).bind fun o2 =>
  some o2
theorem f_Board_doorsHolding_s (a1 : Int32) (a2 : Int32) (S : SS) : f_Board_doorsHolding a1 a2 S =
  (f_Board_bit a1 a2 S).bind fun o1 =>
  (f_Board_doorsFitted o1 S).bind fun o2 =>
  some o2 := rfl
def f_MK_holds (a1 : Int32) (a2 : Int32) (a3 : Int32) (S : SS) : Option (Nat ⊕ Int32) :=
  (f_MK_needDoor a1 S).bind fun o1 => Sum.elim (fun c7 => some (.inl c7)) (fun o1 =>
  (f_MK_needPin a2 S).bind fun o2 => Sum.elim (fun c6 => some (.inl c6)) (fun o2 =>
  (f_MK_needDepth a3 S).bind fun o3 => Sum.elim (fun c5 => some (.inl c5)) (fun o3 =>
  if (S.1 0 4) = 0 then some (.inr (0 : Int32)) else
  (f_Board_doorsHolding a2 a3 S).bind fun o4 =>
  if ((o4 >>> (a1 &&& 31)) &&& (1 : Int32)) = 0 then some (.inr (0 : Int32)) else
  some (.inr (1 : Int32))) o3) o2) o1
theorem f_MK_holds_s (a1 : Int32) (a2 : Int32) (a3 : Int32) (S : SS) : f_MK_holds a1 a2 a3 S =
  (f_MK_needDoor a1 S).bind fun o1 => Sum.elim (fun c7 => some (.inl c7)) (fun o1 =>
  (f_MK_needPin a2 S).bind fun o2 => Sum.elim (fun c6 => some (.inl c6)) (fun o2 =>
  (f_MK_needDepth a3 S).bind fun o3 => Sum.elim (fun c5 => some (.inl c5)) (fun o3 =>
  if (S.1 0 4) = 0 then some (.inr (0 : Int32)) else
  (f_Board_doorsHolding a2 a3 S).bind fun o4 =>
  if ((o4 >>> (a1 &&& 31)) &&& (1 : Int32)) = 0 then some (.inr (0 : Int32)) else
  some (.inr (1 : Int32))) o3) o2) o1 := rfl
def f_MK_fits (a1 : Int32) (a2 : Int32) (S : SS) : Option (Nat ⊕ Int32) :=
  (f_MK_needKey a1 S).bind fun o1 => Sum.elim (fun c5 => some (.inl c5)) (fun o1 =>
  (f_MK_needDoor a2 S).bind fun o2 => Sum.elim (fun c4 => some (.inl c4)) (fun o2 =>
  if (S.1 0 4) = 0 then some (.inr (0 : Int32)) else
  (f_Board_doorsOf a1 S).bind fun o3 =>
  if ((o3 >>> (a2 &&& 31)) &&& (1 : Int32)) = 0 then some (.inr (0 : Int32)) else
  some (.inr (1 : Int32))) o2) o1
theorem f_MK_fits_s (a1 : Int32) (a2 : Int32) (S : SS) : f_MK_fits a1 a2 S =
  (f_MK_needKey a1 S).bind fun o1 => Sum.elim (fun c5 => some (.inl c5)) (fun o1 =>
  (f_MK_needDoor a2 S).bind fun o2 => Sum.elim (fun c4 => some (.inl c4)) (fun o2 =>
  if (S.1 0 4) = 0 then some (.inr (0 : Int32)) else
  (f_Board_doorsOf a1 S).bind fun o3 =>
  if ((o3 >>> (a2 &&& 31)) &&& (1 : Int32)) = 0 then some (.inr (0 : Int32)) else
  some (.inr (1 : Int32))) o2) o1 := rfl
def f_MK_needPlan (S : SS) : Option (Nat ⊕ Unit) :=
  if (S.1 0 4) = 0 then some (.inl 2) else
  some (.inr ())
theorem f_MK_needPlan_s (S : SS) : f_MK_needPlan S =
  if (S.1 0 4) = 0 then some (.inl 2) else
  some (.inr ()) := rfl
def f_Rows_state (a0 : Int32) (a1 : Int32) (S : SS) : Option (Int32) :=
  some ((a0 * (64 : Int32)) + a1)
theorem f_Rows_state_s (a0 : Int32) (a1 : Int32) (S : SS) : f_Rows_state a0 a1 S =
  some ((a0 * (64 : Int32)) + a1) := rfl
def f_Rows_addWays_L3 (x1 : Int32) (x2 : Int32) (x3 : Int32) (x4 : Int32) : Nat → Int32 → SS → Option (SS)
  | 0, _, _ => none
  | n + 1, x5, S =>
    if (64 : Int32) ≤ x5 then some S else
    if oob x1 6 then none else
    (f_Rows_state x2 x5 S).bind fun o2 =>
    if oob o2 512 then none else
    if oob (x1 + (1 : Int32)) 6 then none else
    (f_Rows_state x3 (x5 &&& x4) S).bind fun o5 =>
    if oob o5 512 then none else
    f_Rows_addWays_L3 x1 x2 x3 x4 n (x5 + 1) (wI S (27 + x1.toNatClampNeg) o2.toNatClampNeg ((S.1 (27 + x1.toNatClampNeg) o2.toNatClampNeg) + (S.1 (27 + (x1 + (1 : Int32)).toNatClampNeg) o5.toNatClampNeg)))
theorem f_Rows_addWays_L3_s (x1 : Int32) (x2 : Int32) (x3 : Int32) (x4 : Int32) (n : Nat) (x5 : Int32) (S : SS) : f_Rows_addWays_L3 x1 x2 x3 x4 (n + 1) x5 S =
    if (64 : Int32) ≤ x5 then some S else
    if oob x1 6 then none else
    (f_Rows_state x2 x5 S).bind fun o2 =>
    if oob o2 512 then none else
    if oob (x1 + (1 : Int32)) 6 then none else
    (f_Rows_state x3 (x5 &&& x4) S).bind fun o5 =>
    if oob o5 512 then none else
    f_Rows_addWays_L3 x1 x2 x3 x4 n (x5 + 1) (wI S (27 + x1.toNatClampNeg) o2.toNatClampNeg ((S.1 (27 + x1.toNatClampNeg) o2.toNatClampNeg) + (S.1 (27 + (x1 + (1 : Int32)).toNatClampNeg) o5.toNatClampNeg))) := rfl
def f_Rows_addWays (a1 : Int32) (a2 : Int32) (a3 : Int32) (a4 : Int32) (S : SS) : Option (SS) :=
  (f_Rows_addWays_L3 a1 a2 a3 a4 FU (0 : Int32) S).bind fun v1 =>
  some v1
theorem f_Rows_addWays_s (a1 : Int32) (a2 : Int32) (a3 : Int32) (a4 : Int32) (S : SS) : f_Rows_addWays a1 a2 a3 a4 S =
  (f_Rows_addWays_L3 a1 a2 a3 a4 FU (0 : Int32) S).bind fun v1 =>
  some v1 := rfl
def f_Rows_countWaysBehind_L2 (x1 : Int32) : Nat → Int32 → SS → Option (SS)
  | 0, _, _ => none
  | n + 1, x2, S =>
    if (512 : Int32) ≤ x2 then some S else
    if oob x1 6 then none else
    if oob x2 512 then none else
    f_Rows_countWaysBehind_L2 x1 n (x2 + 1) (wI S (27 + x1.toNatClampNeg) x2.toNatClampNeg (0 : Int32))
theorem f_Rows_countWaysBehind_L2_s (x1 : Int32) (n : Nat) (x2 : Int32) (S : SS) : f_Rows_countWaysBehind_L2 x1 (n + 1) x2 S =
    if (512 : Int32) ≤ x2 then some S else
    if oob x1 6 then none else
    if oob x2 512 then none else
    f_Rows_countWaysBehind_L2 x1 n (x2 + 1) (wI S (27 + x1.toNatClampNeg) x2.toNatClampNeg (0 : Int32)) := rfl
def f_Rows_countWaysBehind_L52 (x1 : Int32) (x2 : Int32) (x3 : Int32) : Nat → Int32 → SS → Option (SS)
  | 0, _, _ => none
  | n + 1, x4, S =>
    if (S.1 1 1) ≤ x4 then some S else
    (f_Law_mayFollow x4 x2 S).bind fun o1 =>
    if o1 = 0 then f_Rows_countWaysBehind_L52 x1 x2 x3 n (x4 + 1) S else
    (f_Rows_addWays x1 x4 x2 x3 S).bind fun o2 =>
    f_Rows_countWaysBehind_L52 x1 x2 x3 n (x4 + 1) o2
theorem f_Rows_countWaysBehind_L52_s (x1 : Int32) (x2 : Int32) (x3 : Int32) (n : Nat) (x4 : Int32) (S : SS) : f_Rows_countWaysBehind_L52 x1 x2 x3 (n + 1) x4 S =
    if (S.1 1 1) ≤ x4 then some S else
    (f_Law_mayFollow x4 x2 S).bind fun o1 =>
    if o1 = 0 then f_Rows_countWaysBehind_L52 x1 x2 x3 n (x4 + 1) S else
    (f_Rows_addWays x1 x4 x2 x3 S).bind fun o2 =>
    f_Rows_countWaysBehind_L52 x1 x2 x3 n (x4 + 1) o2 := rfl
def f_Rows_countWaysBehind_L26 (x1 : Int32) : Nat → Int32 → SS → Option (SS)
  | 0, _, _ => none
  | n + 1, x2, S =>
    if (S.1 1 1) ≤ x2 then some S else
    (f_Board_doorsHolding (x1 + (1 : Int32)) x2 S).bind fun o1 =>
    (f_Rows_countWaysBehind_L52 x1 x2 o1 FU (0 : Int32) S).bind fun v2 =>
    f_Rows_countWaysBehind_L26 x1 n (x2 + 1) v2
theorem f_Rows_countWaysBehind_L26_s (x1 : Int32) (n : Nat) (x2 : Int32) (S : SS) : f_Rows_countWaysBehind_L26 x1 (n + 1) x2 S =
    if (S.1 1 1) ≤ x2 then some S else
    (f_Board_doorsHolding (x1 + (1 : Int32)) x2 S).bind fun o1 =>
    (f_Rows_countWaysBehind_L52 x1 x2 o1 FU (0 : Int32) S).bind fun v2 =>
    f_Rows_countWaysBehind_L26 x1 n (x2 + 1) v2 := rfl
def f_Rows_countWaysBehind (a1 : Int32) (S : SS) : Option (SS) :=
  (f_Rows_countWaysBehind_L2 a1 FU (0 : Int32) S).bind fun v1 =>
  (f_Rows_countWaysBehind_L26 a1 FU (0 : Int32) v1).bind fun v2 =>
  some v2
theorem f_Rows_countWaysBehind_s (a1 : Int32) (S : SS) : f_Rows_countWaysBehind a1 S =
  (f_Rows_countWaysBehind_L2 a1 FU (0 : Int32) S).bind fun v1 =>
  (f_Rows_countWaysBehind_L26 a1 FU (0 : Int32) v1).bind fun v2 =>
  some v2 := rfl
def f_Rows_countWays_L26 (x1 : Int32) (x2 : Int32) (x3 : Int32) : Nat → Int32 → SS → Option (SS)
  | 0, _, _ => none
  | n + 1, x4, S =>
    if (64 : Int32) ≤ x4 then some S else
    if oob x2 6 then none else
    (f_Rows_state x3 x4 S).bind fun o2 =>
    if x4 = x1 then
      (if oob o2 512 then none else
      f_Rows_countWays_L26 x1 x2 x3 n (x4 + 1) (wI S (27 + x2.toNatClampNeg) o2.toNatClampNeg (1 : Int32)))
    else
    if oob o2 512 then none else
    f_Rows_countWays_L26 x1 x2 x3 n (x4 + 1) (wI S (27 + x2.toNatClampNeg) o2.toNatClampNeg (0 : Int32))
theorem f_Rows_countWays_L26_s (x1 : Int32) (x2 : Int32) (x3 : Int32) (n : Nat) (x4 : Int32) (S : SS) : f_Rows_countWays_L26 x1 x2 x3 (n + 1) x4 S =
    if (64 : Int32) ≤ x4 then some S else
    if oob x2 6 then none else
    (f_Rows_state x3 x4 S).bind fun o2 =>
    if x4 = x1 then
      (if oob o2 512 then none else
      f_Rows_countWays_L26 x1 x2 x3 n (x4 + 1) (wI S (27 + x2.toNatClampNeg) o2.toNatClampNeg (1 : Int32)))
    else
    if oob o2 512 then none else
    f_Rows_countWays_L26 x1 x2 x3 n (x4 + 1) (wI S (27 + x2.toNatClampNeg) o2.toNatClampNeg (0 : Int32)) := rfl
def f_Rows_countWays_L12 (x1 : Int32) (x2 : Int32) : Nat → Int32 → SS → Option (SS)
  | 0, _, _ => none
  | n + 1, x3, S =>
    if (S.1 1 1) ≤ x3 then some S else
    (f_Rows_countWays_L26 x1 x2 x3 FU (0 : Int32) S).bind fun v1 =>
    f_Rows_countWays_L12 x1 x2 n (x3 + 1) v1
theorem f_Rows_countWays_L12_s (x1 : Int32) (x2 : Int32) (n : Nat) (x3 : Int32) (S : SS) : f_Rows_countWays_L12 x1 x2 (n + 1) x3 S =
    if (S.1 1 1) ≤ x3 then some S else
    (f_Rows_countWays_L26 x1 x2 x3 FU (0 : Int32) S).bind fun v1 =>
    f_Rows_countWays_L12 x1 x2 n (x3 + 1) v1 := rfl
def f_Rows_countWays_L73 : Nat → Int32 → SS → Option (SS)
  | 0, _, _ => none
  | n + 1, x3, S =>
    if x3 < 0 then some S else
    (f_Rows_countWaysBehind x3 S).bind fun o1 =>
    f_Rows_countWays_L73 n (x3 + (-1)) o1
theorem f_Rows_countWays_L73_s (n : Nat) (x3 : Int32) (S : SS) : f_Rows_countWays_L73 (n + 1) x3 S =
    if x3 < 0 then some S else
    (f_Rows_countWaysBehind x3 S).bind fun o1 =>
    f_Rows_countWays_L73 n (x3 + (-1)) o1 := rfl
def f_Rows_countWays (a1 : Int32) (S : SS) : Option (SS) :=
  (f_Rows_countWays_L12 a1 ((S.1 1 0) - (1 : Int32)) FU (0 : Int32) S).bind fun v1 =>
  (f_Rows_countWays_L73 FU (((S.1 1 0) - (1 : Int32)) - (1 : Int32)) v1).bind fun v2 =>
  some v2
theorem f_Rows_countWays_s (a1 : Int32) (S : SS) : f_Rows_countWays a1 S =
  (f_Rows_countWays_L12 a1 ((S.1 1 0) - (1 : Int32)) FU (0 : Int32) S).bind fun v1 =>
  (f_Rows_countWays_L73 FU (((S.1 1 0) - (1 : Int32)) - (1 : Int32)) v1).bind fun v2 =>
  some v2 := rfl
def f_Board_countKeys_L6 (y1 : Int64) (x3 : Int32) : Nat → Int32 → Int32 → SS → Option (Int32)
  | 0, _, _, _ => none
  | n + 1, x4, x5, S =>
    if (S.1 2 1) ≤ x5 then some x4 else
    if oob x5 8 then none else
    (f_Board_isWithin y1 (S.2 7 x5.toNatClampNeg) S).bind fun o2 =>
    if o2 = 0 then f_Board_countKeys_L6 y1 x3 n x4 (x5 + 1) S else
    (f_Board_doorsOf x5 S).bind fun o3 =>
    if o3 = x3 then f_Board_countKeys_L6 y1 x3 n (x4 + 1) (x5 + 1) S else
    f_Board_countKeys_L6 y1 x3 n x4 (x5 + 1) S
theorem f_Board_countKeys_L6_s (y1 : Int64) (x3 : Int32) (n : Nat) (x4 : Int32) (x5 : Int32) (S : SS) : f_Board_countKeys_L6 y1 x3 (n + 1) x4 x5 S =
    if (S.1 2 1) ≤ x5 then some x4 else
    if oob x5 8 then none else
    (f_Board_isWithin y1 (S.2 7 x5.toNatClampNeg) S).bind fun o2 =>
    if o2 = 0 then f_Board_countKeys_L6 y1 x3 n x4 (x5 + 1) S else
    (f_Board_doorsOf x5 S).bind fun o3 =>
    if o3 = x3 then f_Board_countKeys_L6 y1 x3 n (x4 + 1) (x5 + 1) S else
    f_Board_countKeys_L6 y1 x3 n x4 (x5 + 1) S := rfl
def f_Board_countKeys (a1 : Int64) (a3 : Int32) (S : SS) : Option (Int32) :=
  (f_Board_countKeys_L6 a1 a3 FU (0 : Int32) (0 : Int32) S).bind fun v1 =>
  some v1
theorem f_Board_countKeys_s (a1 : Int64) (a3 : Int32) (S : SS) : f_Board_countKeys a1 a3 S =
  (f_Board_countKeys_L6 a1 a3 FU (0 : Int32) (0 : Int32) S).bind fun v1 =>
  some v1 := rfl
def f_Rows_countFree_L9 (x1 : Int32) : Nat → Int32 → Int32 → SS → Option (Int32)
  | 0, _, _, _ => none
  | n + 1, x2, x3, S =>
    if (S.1 1 1) ≤ x3 then some x2 else
    if oob (0 : Int32) 6 then none else
    (f_Board_doorsHolding (0 : Int32) x3 S).bind fun o2 =>
    (f_Rows_state x3 o2 S).bind fun o3 =>
    if oob o3 512 then none else
    f_Rows_countFree_L9 x1 n (x2 + (S.1 (27 + (0 : Int32).toNatClampNeg) o3.toNatClampNeg)) (x3 + 1) S
theorem f_Rows_countFree_L9_s (x1 : Int32) (n : Nat) (x2 : Int32) (x3 : Int32) (S : SS) : f_Rows_countFree_L9 x1 (n + 1) x2 x3 S =
    if (S.1 1 1) ≤ x3 then some x2 else
    if oob (0 : Int32) 6 then none else
    (f_Board_doorsHolding (0 : Int32) x3 S).bind fun o2 =>
    (f_Rows_state x3 o2 S).bind fun o3 =>
    if oob o3 512 then none else
    f_Rows_countFree_L9 x1 n (x2 + (S.1 (27 + (0 : Int32).toNatClampNeg) o3.toNatClampNeg)) (x3 + 1) S := rfl
def f_Rows_countFree (a1 : Int32) (S : SS) : Option (Int32 × SS) :=
  (f_Rows_countWays a1 S).bind fun o1 =>
  (f_Rows_countFree_L9 a1 FU (0 : Int32) (0 : Int32) o1).bind fun v2 =>
  (f_Board_countKeys (0 : Int64) a1 o1).bind fun o3 =>
  some (v2 - o3, o1)
theorem f_Rows_countFree_s (a1 : Int32) (S : SS) : f_Rows_countFree a1 S =
  (f_Rows_countWays a1 S).bind fun o1 =>
  (f_Rows_countFree_L9 a1 FU (0 : Int32) (0 : Int32) o1).bind fun v2 =>
  (f_Board_countKeys (0 : Int64) a1 o1).bind fun o3 =>
  some (v2 - o3, o1) := rfl
def f_MK_left (S : SS) : Option (Nat ⊕ (Int32 × SS)) :=
  (f_MK_needPlan S).bind fun o1 => Sum.elim (fun c3 => some (.inl c3)) (fun o1 =>
  (f_Rows_countFree (0 : Int32) S).bind fun o2 =>
  some (.inr (o2.1, o2.2))) o1
theorem f_MK_left_s (S : SS) : f_MK_left S =
  (f_MK_needPlan S).bind fun o1 => Sum.elim (fun c3 => some (.inl c3)) (fun o1 =>
  (f_Rows_countFree (0 : Int32) S).bind fun o2 =>
  some (.inr (o2.1, o2.2))) o1 := rfl
def f_Board_allDoors (S : SS) : Option (Int32) :=
  some (((1 : Int32) <<< ((S.1 2 2) &&& 31)) - (1 : Int32))
theorem f_Board_allDoors_s (S : SS) : f_Board_allDoors S =
  some (((1 : Int32) <<< ((S.1 2 2) &&& 31)) - (1 : Int32)) := rfl
def f_Rows_leastDepth_L3 (x1 : Int32) (x2 : Int32) (x3 : Int32) (y4 : Int64) (x6 : Int32) : Nat → Int32 → SS → Option (Int32 ⊕ Unit)
  | 0, _, _ => none
  | n + 1, x7, S =>
    if (S.1 1 1) ≤ x7 then some (.inr ()) else
    if x2 = (-1 : Int32) then
      ((f_Board_doorsHolding x1 x7 S).bind fun o1 =>
      (f_Board_bit x1 x7 S).bind fun o2 =>
      (f_Board_countKeys (y4 ||| o2) x6 S).bind fun o3 =>
      if oob x1 6 then none else
      (f_Rows_state x7 (x3 &&& o1) S).bind fun o5 =>
      if oob o5 512 then none else
      if (S.1 (27 + x1.toNatClampNeg) o5.toNatClampNeg) ≤ o3 then f_Rows_leastDepth_L3 x1 x2 x3 y4 x6 n (x7 + 1) S else
      some (.inl x7))
    else
    (f_Law_mayFollow x2 x7 S).bind fun o7 =>
    if o7 = 0 then f_Rows_leastDepth_L3 x1 x2 x3 y4 x6 n (x7 + 1) S else
    (f_Board_doorsHolding x1 x7 S).bind fun o8 =>
    (f_Board_bit x1 x7 S).bind fun o9 =>
    (f_Board_countKeys (y4 ||| o9) x6 S).bind fun o10 =>
    if oob x1 6 then none else
    (f_Rows_state x7 (x3 &&& o8) S).bind fun o12 =>
    if oob o12 512 then none else
    if (S.1 (27 + x1.toNatClampNeg) o12.toNatClampNeg) ≤ o10 then f_Rows_leastDepth_L3 x1 x2 x3 y4 x6 n (x7 + 1) S else
    some (.inl x7)
theorem f_Rows_leastDepth_L3_s (x1 : Int32) (x2 : Int32) (x3 : Int32) (y4 : Int64) (x6 : Int32) (n : Nat) (x7 : Int32) (S : SS) : f_Rows_leastDepth_L3 x1 x2 x3 y4 x6 (n + 1) x7 S =
    if (S.1 1 1) ≤ x7 then some (.inr ()) else
    if x2 = (-1 : Int32) then
      ((f_Board_doorsHolding x1 x7 S).bind fun o1 =>
      (f_Board_bit x1 x7 S).bind fun o2 =>
      (f_Board_countKeys (y4 ||| o2) x6 S).bind fun o3 =>
      if oob x1 6 then none else
      (f_Rows_state x7 (x3 &&& o1) S).bind fun o5 =>
      if oob o5 512 then none else
      if (S.1 (27 + x1.toNatClampNeg) o5.toNatClampNeg) ≤ o3 then f_Rows_leastDepth_L3 x1 x2 x3 y4 x6 n (x7 + 1) S else
      some (.inl x7))
    else
    (f_Law_mayFollow x2 x7 S).bind fun o7 =>
    if o7 = 0 then f_Rows_leastDepth_L3 x1 x2 x3 y4 x6 n (x7 + 1) S else
    (f_Board_doorsHolding x1 x7 S).bind fun o8 =>
    (f_Board_bit x1 x7 S).bind fun o9 =>
    (f_Board_countKeys (y4 ||| o9) x6 S).bind fun o10 =>
    if oob x1 6 then none else
    (f_Rows_state x7 (x3 &&& o8) S).bind fun o12 =>
    if oob o12 512 then none else
    if (S.1 (27 + x1.toNatClampNeg) o12.toNatClampNeg) ≤ o10 then f_Rows_leastDepth_L3 x1 x2 x3 y4 x6 n (x7 + 1) S else
    some (.inl x7) := rfl
def f_Rows_leastDepth (a1 : Int32) (a2 : Int32) (a3 : Int32) (a4 : Int64) (a6 : Int32) (S : SS) : Option (Int32) :=
  (f_Rows_leastDepth_L3 a1 a2 a3 a4 a6 FU (0 : Int32) S).bind fun v1 => Sum.elim (fun r2 => some r2) (fun v1 =>
  some (-1 : Int32)) v1
theorem f_Rows_leastDepth_s (a1 : Int32) (a2 : Int32) (a3 : Int32) (a4 : Int64) (a6 : Int32) (S : SS) : f_Rows_leastDepth a1 a2 a3 a4 a6 S =
  (f_Rows_leastDepth_L3 a1 a2 a3 a4 a6 FU (0 : Int32) S).bind fun v1 => Sum.elim (fun r2 => some r2) (fun v1 =>
  some (-1 : Int32)) v1 := rfl
def f_Rows_cutLeast_L35 (x1 : Int32) (q2 : Nat) : Nat → Int32 → Int64 → Int32 → SS → Option ((Int32 × SS) ⊕ SS)
  | 0, _, _, _, _ => none
  | n + 1, x3, y4, x6, S =>
    if (S.1 1 0) ≤ x6 then some (.inr S) else
    if x6 ≤ 0 then
      ((f_Rows_leastDepth x6 (-1 : Int32) x3 y4 x1 S).bind fun o1 =>
      if o1 = (-1 : Int32) then some (.inl ((0 : Int32), S)) else
      if oob x6 6 then none else
      (f_Board_doorsHolding x6 o1 (wI S q2 x6.toNatClampNeg o1)).bind fun o3 =>
      (f_Board_bit x6 o1 (wI S q2 x6.toNatClampNeg o1)).bind fun o4 =>
      f_Rows_cutLeast_L35 x1 q2 n (x3 &&& o3) (y4 ||| o4) (x6 + 1) (wI S q2 x6.toNatClampNeg o1))
    else
    if oob (x6 - (1 : Int32)) 6 then none else
    (f_Rows_leastDepth x6 (S.1 q2 (x6 - (1 : Int32)).toNatClampNeg) x3 y4 x1 S).bind fun o6 =>
    if o6 = (-1 : Int32) then some (.inl ((0 : Int32), S)) else
    if oob x6 6 then none else
    (f_Board_doorsHolding x6 o6 (wI S q2 x6.toNatClampNeg o6)).bind fun o8 =>
    (f_Board_bit x6 o6 (wI S q2 x6.toNatClampNeg o6)).bind fun o9 =>
    f_Rows_cutLeast_L35 x1 q2 n (x3 &&& o8) (y4 ||| o9) (x6 + 1) (wI S q2 x6.toNatClampNeg o6)
theorem f_Rows_cutLeast_L35_s (x1 : Int32) (q2 : Nat) (n : Nat) (x3 : Int32) (y4 : Int64) (x6 : Int32) (S : SS) : f_Rows_cutLeast_L35 x1 q2 (n + 1) x3 y4 x6 S =
    if (S.1 1 0) ≤ x6 then some (.inr S) else
    if x6 ≤ 0 then
      ((f_Rows_leastDepth x6 (-1 : Int32) x3 y4 x1 S).bind fun o1 =>
      if o1 = (-1 : Int32) then some (.inl ((0 : Int32), S)) else
      if oob x6 6 then none else
      (f_Board_doorsHolding x6 o1 (wI S q2 x6.toNatClampNeg o1)).bind fun o3 =>
      (f_Board_bit x6 o1 (wI S q2 x6.toNatClampNeg o1)).bind fun o4 =>
      f_Rows_cutLeast_L35 x1 q2 n (x3 &&& o3) (y4 ||| o4) (x6 + 1) (wI S q2 x6.toNatClampNeg o1))
    else
    if oob (x6 - (1 : Int32)) 6 then none else
    (f_Rows_leastDepth x6 (S.1 q2 (x6 - (1 : Int32)).toNatClampNeg) x3 y4 x1 S).bind fun o6 =>
    if o6 = (-1 : Int32) then some (.inl ((0 : Int32), S)) else
    if oob x6 6 then none else
    (f_Board_doorsHolding x6 o6 (wI S q2 x6.toNatClampNeg o6)).bind fun o8 =>
    (f_Board_bit x6 o6 (wI S q2 x6.toNatClampNeg o6)).bind fun o9 =>
    f_Rows_cutLeast_L35 x1 q2 n (x3 &&& o8) (y4 ||| o9) (x6 + 1) (wI S q2 x6.toNatClampNeg o6) := rfl
def f_Rows_cutLeast (a1 : Int32) (S : SS) : Option (Int32 × SS) :=
  (f_Rows_countWays a1 S).bind fun o1 =>
  if oob (o1.1 2 1) 8 then none else
  (f_Board_allDoors o1).bind fun o3 =>
  (f_Rows_cutLeast_L35 a1 (10 + (o1.1 2 1).toNatClampNeg) FU o3 (0 : Int64) (0 : Int32) o1).bind fun v4 => Sum.elim (fun r5 => some r5) (fun v4 =>
  some ((1 : Int32), v4)) v4
theorem f_Rows_cutLeast_s (a1 : Int32) (S : SS) : f_Rows_cutLeast a1 S =
  (f_Rows_countWays a1 S).bind fun o1 =>
  if oob (o1.1 2 1) 8 then none else
  (f_Board_allDoors o1).bind fun o3 =>
  (f_Rows_cutLeast_L35 a1 (10 + (o1.1 2 1).toNatClampNeg) FU o3 (0 : Int64) (0 : Int32) o1).bind fun v4 => Sum.elim (fun r5 => some r5) (fun v4 =>
  some ((1 : Int32), v4)) v4 := rfl
def f_Board_enter_L25 (x2 : Int32) : Nat → Int32 → SS → Option (SS)
  | 0, _, _ => none
  | n + 1, x3, S =>
    if (S.1 2 2) ≤ x3 then some S else
    if oob (x2 + (1 : Int32)) 9 then none else
    if oob x2 9 then none else
    if oob x3 6 then none else
    f_Board_enter_L25 x2 n (x3 + 1) (wL S (18 + (x2 + (1 : Int32)).toNatClampNeg) x3.toNatClampNeg (S.2 (18 + x2.toNatClampNeg) x3.toNatClampNeg))
theorem f_Board_enter_L25_s (x2 : Int32) (n : Nat) (x3 : Int32) (S : SS) : f_Board_enter_L25 x2 (n + 1) x3 S =
    if (S.1 2 2) ≤ x3 then some S else
    if oob (x2 + (1 : Int32)) 9 then none else
    if oob x2 9 then none else
    if oob x3 6 then none else
    f_Board_enter_L25 x2 n (x3 + 1) (wL S (18 + (x2 + (1 : Int32)).toNatClampNeg) x3.toNatClampNeg (S.2 (18 + x2.toNatClampNeg) x3.toNatClampNeg)) := rfl
def f_Board_enter (a1 : Int32) (S : SS) : Option (SS) :=
  if oob (S.1 2 1) 8 then none else
  (f_Board_rowFromCuts (S.1 2 1) (wI S 5 (S.1 2 1).toNatClampNeg a1)).bind fun o2 =>
  (f_Board_enter_L25 (S.1 2 1) FU (0 : Int32) (wL (wI S 5 (S.1 2 1).toNatClampNeg a1) 7 (S.1 2 1).toNatClampNeg o2)).bind fun v3 =>
  some (wI v3 2 1 ((v3.1 2 1) + (1 : Int32)))
theorem f_Board_enter_s (a1 : Int32) (S : SS) : f_Board_enter a1 S =
  if oob (S.1 2 1) 8 then none else
  (f_Board_rowFromCuts (S.1 2 1) (wI S 5 (S.1 2 1).toNatClampNeg a1)).bind fun o2 =>
  (f_Board_enter_L25 (S.1 2 1) FU (0 : Int32) (wL (wI S 5 (S.1 2 1).toNatClampNeg a1) 7 (S.1 2 1).toNatClampNeg o2)).bind fun v3 =>
  some (wI v3 2 1 ((v3.1 2 1) + (1 : Int32))) := rfl
def f_MK_add (a1 : Int32) (S : SS) : Option (Nat ⊕ (Int32 × SS)) :=
  if a1 < 0 then some (.inl 1) else
  (f_Board_allDoors S).bind fun o1 =>
  if a1 ≤ o1 then
    ((f_MK_needPlan S).bind fun o2 => Sum.elim (fun c5 => some (.inl c5)) (fun o2 =>
    if (S.1 2 1) < (8 : Int32) then
      ((f_Rows_cutLeast a1 S).bind fun o3 =>
      if o3.1 = 0 then some (.inr ((-1 : Int32), o3.2)) else
      (f_Board_enter a1 o3.2).bind fun o4 =>
      some (.inr ((o4.1 2 1) - (1 : Int32), o4)))
    else
    some (.inl 2)) o2)
  else
  some (.inl 1)
theorem f_MK_add_s (a1 : Int32) (S : SS) : f_MK_add a1 S =
  if a1 < 0 then some (.inl 1) else
  (f_Board_allDoors S).bind fun o1 =>
  if a1 ≤ o1 then
    ((f_MK_needPlan S).bind fun o2 => Sum.elim (fun c5 => some (.inl c5)) (fun o2 =>
    if (S.1 2 1) < (8 : Int32) then
      ((f_Rows_cutLeast a1 S).bind fun o3 =>
      if o3.1 = 0 then some (.inr ((-1 : Int32), o3.2)) else
      (f_Board_enter a1 o3.2).bind fun o4 =>
      some (.inr ((o4.1 2 1) - (1 : Int32), o4)))
    else
    some (.inl 2)) o2)
  else
  some (.inl 1) := rfl
def f_MK_heirs_L23 (x1 : Int32) (x2 : Int32) : Nat → Int32 → Int32 → SS → Option (Int32)
  | 0, _, _, _ => none
  | n + 1, x3, x4, S =>
    if (S.1 2 1) ≤ x4 then some x3 else
    if x4 = x1 then f_MK_heirs_L23 x1 x2 n x3 (x4 + 1) S else
    (f_Board_doorsOf x4 S).bind fun o1 =>
    if (x2 &&& (o1 ^^^ (-1 : Int32))) = 0 then f_MK_heirs_L23 x1 x2 n (x3 ||| ((1 : Int32) <<< (x4 &&& 31))) (x4 + 1) S else
    f_MK_heirs_L23 x1 x2 n x3 (x4 + 1) S
theorem f_MK_heirs_L23_s (x1 : Int32) (x2 : Int32) (n : Nat) (x3 : Int32) (x4 : Int32) (S : SS) : f_MK_heirs_L23 x1 x2 (n + 1) x3 x4 S =
    if (S.1 2 1) ≤ x4 then some x3 else
    if x4 = x1 then f_MK_heirs_L23 x1 x2 n x3 (x4 + 1) S else
    (f_Board_doorsOf x4 S).bind fun o1 =>
    if (x2 &&& (o1 ^^^ (-1 : Int32))) = 0 then f_MK_heirs_L23 x1 x2 n (x3 ||| ((1 : Int32) <<< (x4 &&& 31))) (x4 + 1) S else
    f_MK_heirs_L23 x1 x2 n x3 (x4 + 1) S := rfl
def f_MK_heirs (a1 : Int32) (S : SS) : Option (Nat ⊕ Int32) :=
  (f_MK_needKey a1 S).bind fun o1 => Sum.elim (fun c6 => some (.inl c6)) (fun o1 =>
  (f_MK_needPlan S).bind fun o2 => Sum.elim (fun c5 => some (.inl c5)) (fun o2 =>
  (f_Board_doorsOf a1 S).bind fun o3 =>
  (f_MK_heirs_L23 a1 o3 FU (0 : Int32) (0 : Int32) S).bind fun v4 =>
  some (.inr v4)) o2) o1
theorem f_MK_heirs_s (a1 : Int32) (S : SS) : f_MK_heirs a1 S =
  (f_MK_needKey a1 S).bind fun o1 => Sum.elim (fun c6 => some (.inl c6)) (fun o1 =>
  (f_MK_needPlan S).bind fun o2 => Sum.elim (fun c5 => some (.inl c5)) (fun o2 =>
  (f_Board_doorsOf a1 S).bind fun o3 =>
  (f_MK_heirs_L23 a1 o3 FU (0 : Int32) (0 : Int32) S).bind fun v4 =>
  some (.inr v4)) o2) o1 := rfl
end
section
set_option maxHeartbeats 4000000 in
set_option maxRecDepth 100000 in
theorem c_Board_isWithin (l : Launch) (D : va_G) (cA : Nat → ClassId) (ad : Nat → Nat) (hI : InjA ad) (sz : Nat) (a0 : Int64) (a2 : Int64) (S : SS) (hs : f_Board_isWithin a0 a2 S ≠ none) : Met l y_Board_isWithin w_Board_isWithin ({ frames := 0, cells := 0, slots := 0, locals := 0 }) (va_Pc [.long a0, .long a2] (fun U => U.heap.size = sz ∧ va_P D vwCl (X cA ad S) U.heap ∧ va_K D vwCl (tysX cA) U)) (va_Qi (fun (r : Int32) (_ : Unit) => f_Board_isWithin a0 a2 S = some r ∧ (r = 0 ∨ r = 1)) (fun (_ : Unit) t => va_P D vwCl (X cA ad S) t.heap ∧ va_K D vwCl (tysX cA) t) (AS ad sz)) 0 0 (AS ad sz) := by
  refine Met.ofW (cc := b_Board_isWithin) (maxL := 4) (ret := (some .boolean)) (by decide) rfl ?_
  intro p e s m args below meth c s₁ B hml hv
  obtain ⟨rfl, hsz, hP, hK⟩ := hv
  have hx := B.exec
  have hb := B.bytes
  have hr := B.returns
  have hts := atoms_spec (ws := w_Board_isWithin) B.pre
  have ht := fun w h => hts w (List.mem_cons_of_mem _ h)
  have hown : s.vm.findClass R_Board = some m.cls := findClass_of_methodNamed B.named
  have hlocks := B.notSynchronized
  subst hsz
  have hAd : ∀ q, q < NP → AS ad s.heap.size (ad q) := fun q h => Or.inl ⟨q, h, rfl⟩
  have hA : ∀ q : Nat, s.heap.size ≤ q → AS ad s.heap.size q := fun q h => Or.inr h
  have hAS : ∀ z : Nat, s.heap.size ≤ z → ∀ q : Nat, AS ad z q → AS ad s.heap.size q := fun z h q hq => hq.elim Or.inl (fun g => Or.inr (Nat.le_trans h g))
  generalize hAe : AS ad s.heap.size = A at hAd hA hAS ⊢
  have hS : va_S A s.heap s.heap [] := va_S.rf
  have hl := lv_entry ([.long a0, .long a2]) (n := 4) (Nat.le_of_ble_eq_true rfl)
  rw [lg_entry_eq]
  generalize (lg_sl ([.long a0, .long a2]) ++ List.replicate (4 - (lg_sl ([.long a0, .long a2])).length) Slot.unset).toArray = ls at hl ⊢
  have hl : lv_has ls 4 [(0, .long a0), (2, .long a2)] := hl
  have hf := (f_Board_isWithin_s a0 a2 S).symm
  generalize hQ : MQ below _ _ s _ _ _ = Q
  refine lv_lload_n hx hb d_Board_isWithin_0 rfl (lv_at hl 0 rfl) ?_
  refine lv_lload_n hx hb d_Board_isWithin_1 rfl (lv_at hl 1 rfl) ?_
  refine lv_ldc2 (v := (-1)) hx hb hown (ht _ mC_Board_94) d_Board_isWithin_2 ?_
  refine lv_lxor hx hb d_Board_isWithin_5 ?_
  refine lv_land hx hb d_Board_isWithin_6 ?_
  refine lv_lconst (v := 0) hx hb d_Board_isWithin_7 (by decide) ?_
  refine W.lcmp hx hb d_Board_isWithin_8 ?_
  refine lv_if_ne (tgt := 16) hx hb d_Board_isWithin_9 (by decide) (fun c1 => ?_) (fun c1 => ?_)
  · rw [if_neg c1] at hf
    refine lv_iconst (v := 0) hx hb d_Board_isWithin_16 (by decide) ?_
    rw [← hQ]
    have hz : (0 : Int32) = 0 ∨ (0 : Int32) = 1 := Or.inl rfl
    exact W.zret (v := (0 : Int32)) hx hb hr (zb_n hz) (fun t ht hW => ⟨⟨(0 : Int32), (), rfl, ⟨hf.symm, hz⟩, by rw [ht]; exact hP, va_K.moved hW.alike hK⟩, hS.F ht⟩) hS.2.2 d_Board_isWithin_17
  · rw [if_pos c1] at hf
    refine lv_iconst (v := 1) hx hb d_Board_isWithin_12 (by decide) ?_
    refine lv_goto (tgt := 17) hx hb d_Board_isWithin_13 (by decide) ?_
    rw [← hQ]
    have hz : (1 : Int32) = 0 ∨ (1 : Int32) = 1 := Or.inr rfl
    exact W.zret (v := (1 : Int32)) hx hb hr (zb_n hz) (fun t ht hW => ⟨⟨(1 : Int32), (), rfl, ⟨hf.symm, hz⟩, by rw [ht]; exact hP, va_K.moved hW.alike hK⟩, hS.F ht⟩) hS.2.2 d_Board_isWithin_17
set_option maxHeartbeats 4000000 in
set_option maxRecDepth 100000 in
theorem c_Board_doorsFitted (l : Launch) (D : va_G) (cA : Nat → ClassId) (ad : Nat → Nat) (hI : InjA ad) (sz : Nat) (a1 : Int64) (S : SS) (hs : f_Board_doorsFitted a1 S ≠ none) : Met l y_Board_doorsFitted w_Board_doorsFitted ({ frames := 1, cells := 0, slots := 0, locals := 23 }) (va_Pc [.ref (ad 2), .long a1] (fun U => U.heap.size = sz ∧ va_P D vwCl (X cA ad S) U.heap ∧ va_K D vwCl (tysX cA) U)) (va_Qi (fun (r : Int32) (_ : Unit) => f_Board_doorsFitted a1 S = some r) (fun (_ : Unit) t => va_P D vwCl (X cA ad S) t.heap ∧ va_K D vwCl (tysX cA) t) (AS ad sz)) 0 0 (AS ad sz) := by
  refine Met.ofW (cc := b_Board_doorsFitted) (maxL := 5) (ret := (some .int)) (by decide) rfl ?_
  intro p e s m args below meth c s₁ B hml hv
  obtain ⟨rfl, hsz, hP, hK⟩ := hv
  have hx := B.exec
  have hb := B.bytes
  have hr := B.returns
  have hts := atoms_spec (ws := w_Board_doorsFitted) B.pre
  have ht := fun w h => hts w (List.mem_cons_of_mem _ h)
  have hown : s.vm.findClass R_Board = some m.cls := findClass_of_methodNamed B.named
  have hlocks := B.notSynchronized
  subst hsz
  have hAd : ∀ q, q < NP → AS ad s.heap.size (ad q) := fun q h => Or.inl ⟨q, h, rfl⟩
  have hA : ∀ q : Nat, s.heap.size ≤ q → AS ad s.heap.size q := fun q h => Or.inr h
  have hAS : ∀ z : Nat, s.heap.size ≤ z → ∀ q : Nat, AS ad z q → AS ad s.heap.size q := fun z h q hq => hq.elim Or.inl (fun g => Or.inr (Nat.le_trans h g))
  generalize hAe : AS ad s.heap.size = A at hAd hA hAS ⊢
  have hS : va_S A s.heap s.heap [] := va_S.rf
  have hl := lv_entry ([.ref (ad 2), .long a1]) (n := 5) (Nat.le_of_ble_eq_true rfl)
  rw [lg_entry_eq]
  generalize (lg_sl ([.ref (ad 2), .long a1]) ++ List.replicate (5 - (lg_sl ([.ref (ad 2), .long a1])).length) Slot.unset).toArray = ls at hl ⊢
  have hl : lv_has ls 5 [(0, .ref (ad 2)), (1, .long a1)] := hl
  have hf := (f_Board_doorsFitted_s a1 S).symm
  generalize hQ : MQ below _ _ s _ _ _ = Q
  refine lv_iconst (v := 0) hx hb d_Board_doorsFitted_0 (by decide) ?_
  refine lv_istore_n (lv' := [(3, .int (0 : Int32)), (0, .ref (ad 2)), (1, .long a1)]) hx hb d_Board_doorsFitted_1 rfl hl (by decide) rfl (fun ls hl => ?_)
  refine lv_iconst (v := 0) hx hb d_Board_doorsFitted_2 (by decide) ?_
  refine lv_istore (lv' := [(4, .int (0 : Int32)), (3, .int (0 : Int32)), (0, .ref (ad 2)), (1, .long a1)]) hx hb d_Board_doorsFitted_3 hl (by decide) rfl (fun ls hl => ?_)
  have lp5_1 : ∀ (n : Nat) (x3_1 : Int32) (x4_1 : Int32) (H : Heap) (locs : List Loc) (ls : Array Slot), va_P D vwCl (X cA ad S) H → va_S A s.heap H locs → lv_has ls 5 [(0, .ref (ad 2)), (1, .long a1), (3, .int x3_1), (4, .int x4_1)] → f_Board_doorsFitted_L5 a1 n x3_1 x4_1 S ≠ none →
      (∀ v : Int32, f_Board_doorsFitted_L5 a1 n x3_1 x4_1 S = some v → ∀ (H : Heap) (locs : List Loc) (ls : Array Slot), va_P D vwCl (X cA ad S) H → va_S A s.heap H locs → lv_has ls 5 [(0, .ref (ad 2)), (1, .long a1), (3, .int v)] → W p l e (headSpec w_Board_doorsFitted ({ frames := 1, cells := 0, slots := 0, locals := 23 })).room s m ([.ref (ad 2), .long a1] : List Value).toArray below meth c H locs 0 0 Q (F0 m 46 ls [])) →
      W p l e (headSpec w_Board_doorsFitted ({ frames := 1, cells := 0, slots := 0, locals := 23 })).room s m ([.ref (ad 2), .long a1] : List Value).toArray below meth c H locs 0 0 Q (F0 m 5 ls []) := by
    intro n
    induction n with
    | zero => intro x3_1 x4_1 H locs ls hP hS hl hs; exact absurd rfl hs
    | succ n ih =>
      intro x3_1 x4_1 H locs ls hP hS hl hs hexit
      have hf := (f_Board_doorsFitted_L5_s a1 n x3_1 x4_1 S).symm
      refine lv_iload hx hb d_Board_doorsFitted_5 (lv_at hl 3 rfl) ?_
      refine lv_aload_n hx hb d_Board_doorsFitted_7 rfl (lv_at hl 0 rfl) ?_
      refine va_get (D := D) (ci := 2) (v := .int (S.1 2 2)) (C := R_Board) (T := T_Board) (N := 7) hx hb ht i_Board hown hK hP 2 Xa_2 rfl 2 (by decide) (ht _ mF_Board_33) (fun _ h9 => h9) rfl d_Board_doorsFitted_8 ?_
      refine lv_icmp_ge (tgt := 46) hx hb d_Board_doorsFitted_11 (by decide) (fun c1 => ?_) (fun c1 => ?_)
      · rw [if_pos c1] at hf
        exact hexit _ hf.symm _ _ _ hP hS (lv_sub hl [0, 1, 2] rfl)
      · rw [if_neg c1] at hf
        refine lv_lload_n hx hb d_Board_doorsFitted_14 rfl (lv_at hl 1 rfl) ?_
        refine lv_aload_n hx hb d_Board_doorsFitted_15 rfl (lv_at hl 0 rfl) ?_
        refine va_get (D := D) (ci := 2) (v := .ref (ad 8)) (C := R_Board) (T := T_Board) (N := 7) hx hb ht i_Board hown hK hP 2 Xa_2 rfl 6 (by decide) (ht _ mF_Board_26) (fun _ h9 => h9) rfl d_Board_doorsFitted_16 ?_
        refine lv_aload_n hx hb d_Board_doorsFitted_19 rfl (lv_at hl 0 rfl) ?_
        refine va_get (D := D) (ci := 2) (v := .int (S.1 2 1)) (C := R_Board) (T := T_Board) (N := 7) hx hb ht i_Board hown hK hP 2 Xa_2 rfl 1 (by decide) (ht _ mF_Board_45) (fun _ h9 => h9) rfl d_Board_doorsFitted_20 ?_
        by_cases b2 : oob (S.1 2 1) 9
        · rw [if_pos b2] at hf; exact absurd hf.symm hs
        rw [if_neg b2] at hf
        refine gz_aald hx hb hK hP 8 3 Xa_8 rfl b2 d_Board_doorsFitted_23 ?_
        rw [X_row b2]
        refine lv_iload hx hb d_Board_doorsFitted_24 (lv_at hl 3 rfl) ?_
        by_cases b3 : oob x4_1 6
        · rw [if_pos b3] at hf; exact absurd hf.symm hs
        rw [if_neg b3] at hf
        refine va_lald (f := S.2 (18 + (S.1 2 1).toNatClampNeg)) hx hb hK hP (18 + (S.1 2 1).toNatClampNeg) 1 (X_rowat8 b2) rfl b3 d_Board_doorsFitted_26 ?_
        refine va_calli (va_runS (As := [.long a1, .long (S.2 (18 + (S.1 2 1).toNatClampNeg) x4_1.toNatClampNeg)]) (rest := []) ⟨hx, hb, hml, hown, ht⟩ (c_Board_isWithin l D cA ad hI H.size a1 (S.2 (18 + (S.1 2 1).toNatClampNeg) x4_1.toNatClampNeg) S (fun hn => hs (by rw [hn] at hf; exact hf.symm))) (va_cwS 2 ht (good_G (gS mM_Board_48 mS_Board_isWithin mN_Board mk_Board_isWithin)) rfl rfl rfl (by decide +kernel) ⟨Nat.le_of_ble_eq_true rfl, Nat.le_of_ble_eq_true rfl⟩) ⟨fun a U g mk q => ⟨q.1, q.2.1, q.2.2.1, va_K.moved (u := U) (U := U.calling g mk a) (Vm.Alike.refl U.vm) q.2.2.2⟩, fun U hU hW => ⟨rfl, by rw [hU], by rw [hU]; exact hP, va_K.moved hW.alike hK⟩⟩ rfl rfl hl.1 rfl (lv_room (Nat.le_of_ble_eq_true rfl)) d_Board_doorsFitted_27 ⟨Nat.le_of_ble_eq_true rfl, Nat.le_of_ble_eq_true rfl⟩) hS (fun q _ h => hAS _ hS.1 q h) (fun q h => hAS _ hS.1 q h) (fun r1 _ t H locs ht9 hvm hw hB hz1 hk1 hS => ?_)
        obtain ⟨hP, hK9⟩ := hB
        rw [ht9] at hP
        obtain ⟨hw, hz1⟩ := hw
        rw [hw, Option.bind_some] at hf
        refine lv_if_eq (tgt := 40) hx hb d_Board_doorsFitted_30 (by decide) (fun c4 => ?_) (fun c4 => ?_)
        · rw [if_pos c4] at hf
          refine lv_iinc (v := x4_1 + 1) (lv' := [(4, .int (x4_1 + 1)), (0, .ref (ad 2)), (1, .long a1), (3, .int x3_1)]) hx hb d_Board_doorsFitted_40 hl (k := 3) rfl rfl (by decide) rfl (fun ls hl => ?_)
          refine lv_goto (tgt := 5) hx hb d_Board_doorsFitted_43 (by decide) ?_
          exact ih x3_1 (x4_1 + 1) _ _ _ hP hS (lv_sub hl [1, 2, 3, 0] rfl) (fun hn => hs (hf.symm.trans hn)) (fun v ho => hexit v (hf.symm.trans ho))
        · rw [if_neg c4] at hf
          refine lv_iload_n hx hb d_Board_doorsFitted_33 rfl (lv_at hl 2 rfl) ?_
          refine lv_iconst (v := 1) hx hb d_Board_doorsFitted_34 (by decide) ?_
          refine lv_iload hx hb d_Board_doorsFitted_35 (lv_at hl 3 rfl) ?_
          refine lv_ishl hx hb d_Board_doorsFitted_37 ?_
          refine lv_ior hx hb d_Board_doorsFitted_38 ?_
          refine lv_istore_n (lv' := [(3, .int (x3_1 ||| ((1 : Int32) <<< (x4_1 &&& 31)))), (0, .ref (ad 2)), (1, .long a1), (4, .int x4_1)]) hx hb d_Board_doorsFitted_39 rfl hl (by decide) rfl (fun ls hl => ?_)
          refine lv_iinc (v := x4_1 + 1) (lv' := [(4, .int (x4_1 + 1)), (3, .int (x3_1 ||| ((1 : Int32) <<< (x4_1 &&& 31)))), (0, .ref (ad 2)), (1, .long a1)]) hx hb d_Board_doorsFitted_40 hl (k := 3) rfl rfl (by decide) rfl (fun ls hl => ?_)
          refine lv_goto (tgt := 5) hx hb d_Board_doorsFitted_43 (by decide) ?_
          exact ih (x3_1 ||| ((1 : Int32) <<< (x4_1 &&& 31))) (x4_1 + 1) _ _ _ hP hS (lv_sub hl [2, 3, 1, 0] rfl) (fun hn => hs (hf.symm.trans hn)) (fun v ho => hexit v (hf.symm.trans ho))
  refine lp5_1 FU (0 : Int32) (0 : Int32) _ _ _ hP hS (lv_sub hl [2, 3, 1, 0] rfl) (fun hn => ?_) (fun v5 hvv5 H locs ls hP hS hl => ?_)
  · rw [hn] at hf; exact hs hf.symm
  · rw [hvv5, Option.bind_some] at hf
    refine lv_iload_n hx hb d_Board_doorsFitted_46 rfl (lv_at hl 2 rfl) ?_
    rw [← hQ]
    exact W.iret (v := v5) hx hb hr (fun t ht hW => ⟨⟨v5, (), rfl, hf.symm, by rw [ht]; exact hP, va_K.moved hW.alike hK⟩, hS.F ht⟩) hS.2.2 d_Board_doorsFitted_47
set_option maxHeartbeats 4000000 in
set_option maxRecDepth 100000 in
theorem c_Board_doorsOf (l : Launch) (D : va_G) (cA : Nat → ClassId) (ad : Nat → Nat) (hI : InjA ad) (sz : Nat) (a1 : Int32) (S : SS) (hs : f_Board_doorsOf a1 S ≠ none) : Met l y_Board_doorsOf w_Board_doorsOf ({ frames := 2, cells := 0, slots := 0, locals := 47 }) (va_Pc [.ref (ad 2), .int a1] (fun U => U.heap.size = sz ∧ va_P D vwCl (X cA ad S) U.heap ∧ va_K D vwCl (tysX cA) U)) (va_Qi (fun (r : Int32) (_ : Unit) => f_Board_doorsOf a1 S = some r) (fun (_ : Unit) t => va_P D vwCl (X cA ad S) t.heap ∧ va_K D vwCl (tysX cA) t) (AS ad sz)) 0 0 (AS ad sz) := by
  refine Met.ofW (cc := b_Board_doorsOf) (maxL := 2) (ret := (some .int)) (by decide) rfl ?_
  intro p e s m args below meth c s₁ B hml hv
  obtain ⟨rfl, hsz, hP, hK⟩ := hv
  have hx := B.exec
  have hb := B.bytes
  have hr := B.returns
  have hts := atoms_spec (ws := w_Board_doorsOf) B.pre
  have ht := fun w h => hts w (List.mem_cons_of_mem _ h)
  have hown : s.vm.findClass R_Board = some m.cls := findClass_of_methodNamed B.named
  have hlocks := B.notSynchronized
  subst hsz
  have hAd : ∀ q, q < NP → AS ad s.heap.size (ad q) := fun q h => Or.inl ⟨q, h, rfl⟩
  have hA : ∀ q : Nat, s.heap.size ≤ q → AS ad s.heap.size q := fun q h => Or.inr h
  have hAS : ∀ z : Nat, s.heap.size ≤ z → ∀ q : Nat, AS ad z q → AS ad s.heap.size q := fun z h q hq => hq.elim Or.inl (fun g => Or.inr (Nat.le_trans h g))
  generalize hAe : AS ad s.heap.size = A at hAd hA hAS ⊢
  have hS : va_S A s.heap s.heap [] := va_S.rf
  have hl := lv_entry ([.ref (ad 2), .int a1]) (n := 2) (Nat.le_of_ble_eq_true rfl)
  rw [lg_entry_eq]
  generalize (lg_sl ([.ref (ad 2), .int a1]) ++ List.replicate (2 - (lg_sl ([.ref (ad 2), .int a1])).length) Slot.unset).toArray = ls at hl ⊢
  have hl : lv_has ls 2 [(0, .ref (ad 2)), (1, .int a1)] := hl
  have hf := (f_Board_doorsOf_s a1 S).symm
  generalize hQ : MQ below _ _ s _ _ _ = Q
  refine lv_aload_n hx hb d_Board_doorsOf_0 rfl (lv_at hl 0 rfl) ?_
  refine lv_aload_n hx hb d_Board_doorsOf_1 rfl (lv_at hl 0 rfl) ?_
  refine va_get (D := D) (ci := 2) (v := .ref (ad 7)) (C := R_Board) (T := T_Board) (N := 7) hx hb ht i_Board hown hK hP 2 Xa_2 rfl 5 (by decide) (ht _ mF_Board_20) (fun _ h9 => h9) rfl d_Board_doorsOf_2 ?_
  refine lv_iload_n hx hb d_Board_doorsOf_5 rfl (lv_at hl 1 rfl) ?_
  by_cases b1 : oob a1 8
  · rw [if_pos b1] at hf; exact absurd hf.symm hs
  rw [if_neg b1] at hf
  refine va_lald (f := S.2 7) hx hb hK hP 7 1 Xa_7 rfl b1 d_Board_doorsOf_6 ?_
  refine va_calli (va_runV (As := [.long (S.2 7 a1.toNatClampNeg)]) (rest := []) ⟨hx, hb, hml, hown, ht⟩ (c_Board_doorsFitted l D cA ad hI s.heap.size (S.2 7 a1.toNatClampNeg) S (fun hn => hs (by rw [hn] at hf; exact hf.symm))) (cwV 1 ht (good_G (gV mM_Board_41 mI_Board_doorsFitted mV_Board_doorsFitted mN_Board mk_Board_doorsFitted)) rfl rfl rfl (by decide +kernel) ⟨Nat.le_of_ble_eq_true rfl, Nat.le_of_ble_eq_true rfl⟩) ⟨fun a U g mk q => ⟨q.1, q.2.1, q.2.2.1, va_K.moved (u := U) (U := U.calling g mk a) (Vm.Alike.refl U.vm) q.2.2.2⟩, va_recv hK hP (ci := 2) (q0 := 2) rfl Xa_2, fun U hU hW => ⟨rfl, by rw [hU], by rw [hU]; exact hP, va_K.moved hW.alike hK⟩⟩ rfl rfl hl.1 rfl (lv_room (Nat.le_of_ble_eq_true rfl)) d_Board_doorsOf_7 ⟨Nat.le_of_ble_eq_true rfl, Nat.le_of_ble_eq_true rfl⟩) hS (fun q _ h => hAS _ hS.1 q h) (fun q h => hAS _ hS.1 q h) (fun r1 _ t H locs ht9 hvm hw hB hz1 hk1 hS => ?_)
  obtain ⟨hP, hK9⟩ := hB
  rw [ht9] at hP
  rw [hw, Option.bind_some] at hf
  rw [← hQ]
  exact W.iret (v := r1) hx hb hr (fun t ht hW => ⟨⟨r1, (), rfl, hf.symm, by rw [ht]; exact hP, va_K.moved hW.alike hK⟩, hS.F ht⟩) hS.2.2 d_Board_doorsOf_10
set_option maxHeartbeats 4000000 in
set_option maxRecDepth 100000 in
theorem c_JI_bitCount (l : Launch) (D : va_G) (cA : Nat → ClassId) (ad : Nat → Nat) (hI : InjA ad) (sz : Nat) (a0 : Int32) (S : SS) (hs : f_JI_bitCount a0 S ≠ none) : Met l y_JI_bitCount w_JI_bitCount ({ frames := 0, cells := 0, slots := 0, locals := 0 }) (va_Pc [.int a0] (fun U => U.heap.size = sz ∧ va_P D vwCl (X cA ad S) U.heap ∧ va_K D vwCl (tysX cA) U)) (va_Qi (fun (r : Int32) (_ : Unit) => f_JI_bitCount a0 S = some r) (fun (_ : Unit) t => va_P D vwCl (X cA ad S) t.heap ∧ va_K D vwCl (tysX cA) t) (AS ad sz)) 0 0 (AS ad sz) := by
  refine Met.ofW (cc := b_JI_bitCount) (maxL := 1) (ret := (some .int)) (by decide) rfl ?_
  intro p e s m args below meth c s₁ B hml hv
  obtain ⟨rfl, hsz, hP, hK⟩ := hv
  have hx := B.exec
  have hb := B.bytes
  have hr := B.returns
  have hts := atoms_spec (ws := w_JI_bitCount) B.pre
  have ht := fun w h => hts w (List.mem_cons_of_mem _ h)
  have hown : s.vm.findClass R_JI = some m.cls := findClass_of_methodNamed B.named
  have hlocks := B.notSynchronized
  subst hsz
  have hAd : ∀ q, q < NP → AS ad s.heap.size (ad q) := fun q h => Or.inl ⟨q, h, rfl⟩
  have hA : ∀ q : Nat, s.heap.size ≤ q → AS ad s.heap.size q := fun q h => Or.inr h
  have hAS : ∀ z : Nat, s.heap.size ≤ z → ∀ q : Nat, AS ad z q → AS ad s.heap.size q := fun z h q hq => hq.elim Or.inl (fun g => Or.inr (Nat.le_trans h g))
  generalize hAe : AS ad s.heap.size = A at hAd hA hAS ⊢
  have hS : va_S A s.heap s.heap [] := va_S.rf
  have hl := lv_entry ([.int a0]) (n := 1) (Nat.le_of_ble_eq_true rfl)
  rw [lg_entry_eq]
  generalize (lg_sl ([.int a0]) ++ List.replicate (1 - (lg_sl ([.int a0])).length) Slot.unset).toArray = ls at hl ⊢
  have hl : lv_has ls 1 [(0, .int a0)] := hl
  have hf := (f_JI_bitCount_s a0 S).symm
  generalize hQ : MQ below _ _ s _ _ _ = Q
  refine lv_iload_n hx hb d_JI_bitCount_0 rfl (lv_at hl 0 rfl) ?_
  refine lv_iload_n hx hb d_JI_bitCount_1 rfl (lv_at hl 0 rfl) ?_
  refine lv_iconst (v := 1) hx hb d_JI_bitCount_2 (by decide) ?_
  refine lv_iushr hx hb d_JI_bitCount_3 rfl ?_
  refine lv_ldcw (v := 1431655765) hx hb hown (ht _ mC_JI_265) d_JI_bitCount_4 ?_
  refine lv_iand hx hb d_JI_bitCount_7 ?_
  refine lv_isub hx hb d_JI_bitCount_8 ?_
  refine lv_istore_n (lv' := [(0, .int (a0 - (((a0.toUInt32 >>> ((1 : Int32).toUInt32 &&& Int32.toUInt32 31)).toInt32) &&& (1431655765 : Int32))))]) hx hb d_JI_bitCount_9 rfl hl (by decide) rfl (fun ls hl => ?_)
  refine lv_iload_n hx hb d_JI_bitCount_10 rfl (lv_at hl 0 rfl) ?_
  refine lv_ldcw (v := 858993459) hx hb hown (ht _ mC_JI_266) d_JI_bitCount_11 ?_
  refine lv_iand hx hb d_JI_bitCount_14 ?_
  refine lv_iload_n hx hb d_JI_bitCount_15 rfl (lv_at hl 0 rfl) ?_
  refine lv_iconst (v := 2) hx hb d_JI_bitCount_16 (by decide) ?_
  refine lv_iushr hx hb d_JI_bitCount_17 rfl ?_
  refine lv_ldcw (v := 858993459) hx hb hown (ht _ mC_JI_266) d_JI_bitCount_18 ?_
  refine lv_iand hx hb d_JI_bitCount_21 ?_
  refine lv_iadd hx hb d_JI_bitCount_22 ?_
  refine lv_istore_n (lv' := [(0, .int (((a0 - (((a0.toUInt32 >>> ((1 : Int32).toUInt32 &&& Int32.toUInt32 31)).toInt32) &&& (1431655765 : Int32))) &&& (858993459 : Int32)) + ((((a0 - (((a0.toUInt32 >>> ((1 : Int32).toUInt32 &&& Int32.toUInt32 31)).toInt32) &&& (1431655765 : Int32))).toUInt32 >>> ((2 : Int32).toUInt32 &&& Int32.toUInt32 31)).toInt32) &&& (858993459 : Int32))))]) hx hb d_JI_bitCount_23 rfl hl (by decide) rfl (fun ls hl => ?_)
  refine lv_iload_n hx hb d_JI_bitCount_24 rfl (lv_at hl 0 rfl) ?_
  refine lv_iload_n hx hb d_JI_bitCount_25 rfl (lv_at hl 0 rfl) ?_
  refine lv_iconst (v := 4) hx hb d_JI_bitCount_26 (by decide) ?_
  refine lv_iushr hx hb d_JI_bitCount_27 rfl ?_
  refine lv_iadd hx hb d_JI_bitCount_28 ?_
  refine lv_ldcw (v := 252645135) hx hb hown (ht _ mC_JI_267) d_JI_bitCount_29 ?_
  refine lv_iand hx hb d_JI_bitCount_32 ?_
  refine lv_istore_n (lv' := [(0, .int (((((a0 - (((a0.toUInt32 >>> ((1 : Int32).toUInt32 &&& Int32.toUInt32 31)).toInt32) &&& (1431655765 : Int32))) &&& (858993459 : Int32)) + ((((a0 - (((a0.toUInt32 >>> ((1 : Int32).toUInt32 &&& Int32.toUInt32 31)).toInt32) &&& (1431655765 : Int32))).toUInt32 >>> ((2 : Int32).toUInt32 &&& Int32.toUInt32 31)).toInt32) &&& (858993459 : Int32))) + (((((a0 - (((a0.toUInt32 >>> ((1 : Int32).toUInt32 &&& Int32.toUInt32 31)).toInt32) &&& (1431655765 : Int32))) &&& (858993459 : Int32)) + ((((a0 - (((a0.toUInt32 >>> ((1 : Int32).toUInt32 &&& Int32.toUInt32 31)).toInt32) &&& (1431655765 : Int32))).toUInt32 >>> ((2 : Int32).toUInt32 &&& Int32.toUInt32 31)).toInt32) &&& (858993459 : Int32))).toUInt32 >>> ((4 : Int32).toUInt32 &&& Int32.toUInt32 31)).toInt32)) &&& (252645135 : Int32)))]) hx hb d_JI_bitCount_33 rfl hl (by decide) rfl (fun ls hl => ?_)
  refine lv_iload_n hx hb d_JI_bitCount_34 rfl (lv_at hl 0 rfl) ?_
  refine lv_iload_n hx hb d_JI_bitCount_35 rfl (lv_at hl 0 rfl) ?_
  refine lv_bipush (v := 8) hx hb d_JI_bitCount_36 (by decide) ?_
  refine lv_iushr hx hb d_JI_bitCount_38 rfl ?_
  refine lv_iadd hx hb d_JI_bitCount_39 ?_
  refine lv_istore_n (lv' := [(0, .int ((((((a0 - (((a0.toUInt32 >>> ((1 : Int32).toUInt32 &&& Int32.toUInt32 31)).toInt32) &&& (1431655765 : Int32))) &&& (858993459 : Int32)) + ((((a0 - (((a0.toUInt32 >>> ((1 : Int32).toUInt32 &&& Int32.toUInt32 31)).toInt32) &&& (1431655765 : Int32))).toUInt32 >>> ((2 : Int32).toUInt32 &&& Int32.toUInt32 31)).toInt32) &&& (858993459 : Int32))) + (((((a0 - (((a0.toUInt32 >>> ((1 : Int32).toUInt32 &&& Int32.toUInt32 31)).toInt32) &&& (1431655765 : Int32))) &&& (858993459 : Int32)) + ((((a0 - (((a0.toUInt32 >>> ((1 : Int32).toUInt32 &&& Int32.toUInt32 31)).toInt32) &&& (1431655765 : Int32))).toUInt32 >>> ((2 : Int32).toUInt32 &&& Int32.toUInt32 31)).toInt32) &&& (858993459 : Int32))).toUInt32 >>> ((4 : Int32).toUInt32 &&& Int32.toUInt32 31)).toInt32)) &&& (252645135 : Int32)) + (((((((a0 - (((a0.toUInt32 >>> ((1 : Int32).toUInt32 &&& Int32.toUInt32 31)).toInt32) &&& (1431655765 : Int32))) &&& (858993459 : Int32)) + ((((a0 - (((a0.toUInt32 >>> ((1 : Int32).toUInt32 &&& Int32.toUInt32 31)).toInt32) &&& (1431655765 : Int32))).toUInt32 >>> ((2 : Int32).toUInt32 &&& Int32.toUInt32 31)).toInt32) &&& (858993459 : Int32))) + (((((a0 - (((a0.toUInt32 >>> ((1 : Int32).toUInt32 &&& Int32.toUInt32 31)).toInt32) &&& (1431655765 : Int32))) &&& (858993459 : Int32)) + ((((a0 - (((a0.toUInt32 >>> ((1 : Int32).toUInt32 &&& Int32.toUInt32 31)).toInt32) &&& (1431655765 : Int32))).toUInt32 >>> ((2 : Int32).toUInt32 &&& Int32.toUInt32 31)).toInt32) &&& (858993459 : Int32))).toUInt32 >>> ((4 : Int32).toUInt32 &&& Int32.toUInt32 31)).toInt32)) &&& (252645135 : Int32)).toUInt32 >>> ((8 : Int32).toUInt32 &&& Int32.toUInt32 31)).toInt32)))]) hx hb d_JI_bitCount_40 rfl hl (by decide) rfl (fun ls hl => ?_)
  refine lv_iload_n hx hb d_JI_bitCount_41 rfl (lv_at hl 0 rfl) ?_
  refine lv_iload_n hx hb d_JI_bitCount_42 rfl (lv_at hl 0 rfl) ?_
  refine lv_bipush (v := 16) hx hb d_JI_bitCount_43 (by decide) ?_
  refine lv_iushr hx hb d_JI_bitCount_45 rfl ?_
  refine lv_iadd hx hb d_JI_bitCount_46 ?_
  refine lv_istore_n (lv' := [(0, .int (((((((a0 - (((a0.toUInt32 >>> ((1 : Int32).toUInt32 &&& Int32.toUInt32 31)).toInt32) &&& (1431655765 : Int32))) &&& (858993459 : Int32)) + ((((a0 - (((a0.toUInt32 >>> ((1 : Int32).toUInt32 &&& Int32.toUInt32 31)).toInt32) &&& (1431655765 : Int32))).toUInt32 >>> ((2 : Int32).toUInt32 &&& Int32.toUInt32 31)).toInt32) &&& (858993459 : Int32))) + (((((a0 - (((a0.toUInt32 >>> ((1 : Int32).toUInt32 &&& Int32.toUInt32 31)).toInt32) &&& (1431655765 : Int32))) &&& (858993459 : Int32)) + ((((a0 - (((a0.toUInt32 >>> ((1 : Int32).toUInt32 &&& Int32.toUInt32 31)).toInt32) &&& (1431655765 : Int32))).toUInt32 >>> ((2 : Int32).toUInt32 &&& Int32.toUInt32 31)).toInt32) &&& (858993459 : Int32))).toUInt32 >>> ((4 : Int32).toUInt32 &&& Int32.toUInt32 31)).toInt32)) &&& (252645135 : Int32)) + (((((((a0 - (((a0.toUInt32 >>> ((1 : Int32).toUInt32 &&& Int32.toUInt32 31)).toInt32) &&& (1431655765 : Int32))) &&& (858993459 : Int32)) + ((((a0 - (((a0.toUInt32 >>> ((1 : Int32).toUInt32 &&& Int32.toUInt32 31)).toInt32) &&& (1431655765 : Int32))).toUInt32 >>> ((2 : Int32).toUInt32 &&& Int32.toUInt32 31)).toInt32) &&& (858993459 : Int32))) + (((((a0 - (((a0.toUInt32 >>> ((1 : Int32).toUInt32 &&& Int32.toUInt32 31)).toInt32) &&& (1431655765 : Int32))) &&& (858993459 : Int32)) + ((((a0 - (((a0.toUInt32 >>> ((1 : Int32).toUInt32 &&& Int32.toUInt32 31)).toInt32) &&& (1431655765 : Int32))).toUInt32 >>> ((2 : Int32).toUInt32 &&& Int32.toUInt32 31)).toInt32) &&& (858993459 : Int32))).toUInt32 >>> ((4 : Int32).toUInt32 &&& Int32.toUInt32 31)).toInt32)) &&& (252645135 : Int32)).toUInt32 >>> ((8 : Int32).toUInt32 &&& Int32.toUInt32 31)).toInt32)) + ((((((((a0 - (((a0.toUInt32 >>> ((1 : Int32).toUInt32 &&& Int32.toUInt32 31)).toInt32) &&& (1431655765 : Int32))) &&& (858993459 : Int32)) + ((((a0 - (((a0.toUInt32 >>> ((1 : Int32).toUInt32 &&& Int32.toUInt32 31)).toInt32) &&& (1431655765 : Int32))).toUInt32 >>> ((2 : Int32).toUInt32 &&& Int32.toUInt32 31)).toInt32) &&& (858993459 : Int32))) + (((((a0 - (((a0.toUInt32 >>> ((1 : Int32).toUInt32 &&& Int32.toUInt32 31)).toInt32) &&& (1431655765 : Int32))) &&& (858993459 : Int32)) + ((((a0 - (((a0.toUInt32 >>> ((1 : Int32).toUInt32 &&& Int32.toUInt32 31)).toInt32) &&& (1431655765 : Int32))).toUInt32 >>> ((2 : Int32).toUInt32 &&& Int32.toUInt32 31)).toInt32) &&& (858993459 : Int32))).toUInt32 >>> ((4 : Int32).toUInt32 &&& Int32.toUInt32 31)).toInt32)) &&& (252645135 : Int32)) + (((((((a0 - (((a0.toUInt32 >>> ((1 : Int32).toUInt32 &&& Int32.toUInt32 31)).toInt32) &&& (1431655765 : Int32))) &&& (858993459 : Int32)) + ((((a0 - (((a0.toUInt32 >>> ((1 : Int32).toUInt32 &&& Int32.toUInt32 31)).toInt32) &&& (1431655765 : Int32))).toUInt32 >>> ((2 : Int32).toUInt32 &&& Int32.toUInt32 31)).toInt32) &&& (858993459 : Int32))) + (((((a0 - (((a0.toUInt32 >>> ((1 : Int32).toUInt32 &&& Int32.toUInt32 31)).toInt32) &&& (1431655765 : Int32))) &&& (858993459 : Int32)) + ((((a0 - (((a0.toUInt32 >>> ((1 : Int32).toUInt32 &&& Int32.toUInt32 31)).toInt32) &&& (1431655765 : Int32))).toUInt32 >>> ((2 : Int32).toUInt32 &&& Int32.toUInt32 31)).toInt32) &&& (858993459 : Int32))).toUInt32 >>> ((4 : Int32).toUInt32 &&& Int32.toUInt32 31)).toInt32)) &&& (252645135 : Int32)).toUInt32 >>> ((8 : Int32).toUInt32 &&& Int32.toUInt32 31)).toInt32)).toUInt32 >>> ((16 : Int32).toUInt32 &&& Int32.toUInt32 31)).toInt32)))]) hx hb d_JI_bitCount_47 rfl hl (by decide) rfl (fun ls hl => ?_)
  refine lv_iload_n hx hb d_JI_bitCount_48 rfl (lv_at hl 0 rfl) ?_
  refine lv_bipush (v := 63) hx hb d_JI_bitCount_49 (by decide) ?_
  refine lv_iand hx hb d_JI_bitCount_51 ?_
  rw [← hQ]
  exact W.iret (v := (((((((a0 - (((a0.toUInt32 >>> ((1 : Int32).toUInt32 &&& Int32.toUInt32 31)).toInt32) &&& (1431655765 : Int32))) &&& (858993459 : Int32)) + ((((a0 - (((a0.toUInt32 >>> ((1 : Int32).toUInt32 &&& Int32.toUInt32 31)).toInt32) &&& (1431655765 : Int32))).toUInt32 >>> ((2 : Int32).toUInt32 &&& Int32.toUInt32 31)).toInt32) &&& (858993459 : Int32))) + (((((a0 - (((a0.toUInt32 >>> ((1 : Int32).toUInt32 &&& Int32.toUInt32 31)).toInt32) &&& (1431655765 : Int32))) &&& (858993459 : Int32)) + ((((a0 - (((a0.toUInt32 >>> ((1 : Int32).toUInt32 &&& Int32.toUInt32 31)).toInt32) &&& (1431655765 : Int32))).toUInt32 >>> ((2 : Int32).toUInt32 &&& Int32.toUInt32 31)).toInt32) &&& (858993459 : Int32))).toUInt32 >>> ((4 : Int32).toUInt32 &&& Int32.toUInt32 31)).toInt32)) &&& (252645135 : Int32)) + (((((((a0 - (((a0.toUInt32 >>> ((1 : Int32).toUInt32 &&& Int32.toUInt32 31)).toInt32) &&& (1431655765 : Int32))) &&& (858993459 : Int32)) + ((((a0 - (((a0.toUInt32 >>> ((1 : Int32).toUInt32 &&& Int32.toUInt32 31)).toInt32) &&& (1431655765 : Int32))).toUInt32 >>> ((2 : Int32).toUInt32 &&& Int32.toUInt32 31)).toInt32) &&& (858993459 : Int32))) + (((((a0 - (((a0.toUInt32 >>> ((1 : Int32).toUInt32 &&& Int32.toUInt32 31)).toInt32) &&& (1431655765 : Int32))) &&& (858993459 : Int32)) + ((((a0 - (((a0.toUInt32 >>> ((1 : Int32).toUInt32 &&& Int32.toUInt32 31)).toInt32) &&& (1431655765 : Int32))).toUInt32 >>> ((2 : Int32).toUInt32 &&& Int32.toUInt32 31)).toInt32) &&& (858993459 : Int32))).toUInt32 >>> ((4 : Int32).toUInt32 &&& Int32.toUInt32 31)).toInt32)) &&& (252645135 : Int32)).toUInt32 >>> ((8 : Int32).toUInt32 &&& Int32.toUInt32 31)).toInt32)) + ((((((((a0 - (((a0.toUInt32 >>> ((1 : Int32).toUInt32 &&& Int32.toUInt32 31)).toInt32) &&& (1431655765 : Int32))) &&& (858993459 : Int32)) + ((((a0 - (((a0.toUInt32 >>> ((1 : Int32).toUInt32 &&& Int32.toUInt32 31)).toInt32) &&& (1431655765 : Int32))).toUInt32 >>> ((2 : Int32).toUInt32 &&& Int32.toUInt32 31)).toInt32) &&& (858993459 : Int32))) + (((((a0 - (((a0.toUInt32 >>> ((1 : Int32).toUInt32 &&& Int32.toUInt32 31)).toInt32) &&& (1431655765 : Int32))) &&& (858993459 : Int32)) + ((((a0 - (((a0.toUInt32 >>> ((1 : Int32).toUInt32 &&& Int32.toUInt32 31)).toInt32) &&& (1431655765 : Int32))).toUInt32 >>> ((2 : Int32).toUInt32 &&& Int32.toUInt32 31)).toInt32) &&& (858993459 : Int32))).toUInt32 >>> ((4 : Int32).toUInt32 &&& Int32.toUInt32 31)).toInt32)) &&& (252645135 : Int32)) + (((((((a0 - (((a0.toUInt32 >>> ((1 : Int32).toUInt32 &&& Int32.toUInt32 31)).toInt32) &&& (1431655765 : Int32))) &&& (858993459 : Int32)) + ((((a0 - (((a0.toUInt32 >>> ((1 : Int32).toUInt32 &&& Int32.toUInt32 31)).toInt32) &&& (1431655765 : Int32))).toUInt32 >>> ((2 : Int32).toUInt32 &&& Int32.toUInt32 31)).toInt32) &&& (858993459 : Int32))) + (((((a0 - (((a0.toUInt32 >>> ((1 : Int32).toUInt32 &&& Int32.toUInt32 31)).toInt32) &&& (1431655765 : Int32))) &&& (858993459 : Int32)) + ((((a0 - (((a0.toUInt32 >>> ((1 : Int32).toUInt32 &&& Int32.toUInt32 31)).toInt32) &&& (1431655765 : Int32))).toUInt32 >>> ((2 : Int32).toUInt32 &&& Int32.toUInt32 31)).toInt32) &&& (858993459 : Int32))).toUInt32 >>> ((4 : Int32).toUInt32 &&& Int32.toUInt32 31)).toInt32)) &&& (252645135 : Int32)).toUInt32 >>> ((8 : Int32).toUInt32 &&& Int32.toUInt32 31)).toInt32)).toUInt32 >>> ((16 : Int32).toUInt32 &&& Int32.toUInt32 31)).toInt32)) &&& (63 : Int32)) hx hb hr (fun t ht hW => ⟨⟨(((((((a0 - (((a0.toUInt32 >>> ((1 : Int32).toUInt32 &&& Int32.toUInt32 31)).toInt32) &&& (1431655765 : Int32))) &&& (858993459 : Int32)) + ((((a0 - (((a0.toUInt32 >>> ((1 : Int32).toUInt32 &&& Int32.toUInt32 31)).toInt32) &&& (1431655765 : Int32))).toUInt32 >>> ((2 : Int32).toUInt32 &&& Int32.toUInt32 31)).toInt32) &&& (858993459 : Int32))) + (((((a0 - (((a0.toUInt32 >>> ((1 : Int32).toUInt32 &&& Int32.toUInt32 31)).toInt32) &&& (1431655765 : Int32))) &&& (858993459 : Int32)) + ((((a0 - (((a0.toUInt32 >>> ((1 : Int32).toUInt32 &&& Int32.toUInt32 31)).toInt32) &&& (1431655765 : Int32))).toUInt32 >>> ((2 : Int32).toUInt32 &&& Int32.toUInt32 31)).toInt32) &&& (858993459 : Int32))).toUInt32 >>> ((4 : Int32).toUInt32 &&& Int32.toUInt32 31)).toInt32)) &&& (252645135 : Int32)) + (((((((a0 - (((a0.toUInt32 >>> ((1 : Int32).toUInt32 &&& Int32.toUInt32 31)).toInt32) &&& (1431655765 : Int32))) &&& (858993459 : Int32)) + ((((a0 - (((a0.toUInt32 >>> ((1 : Int32).toUInt32 &&& Int32.toUInt32 31)).toInt32) &&& (1431655765 : Int32))).toUInt32 >>> ((2 : Int32).toUInt32 &&& Int32.toUInt32 31)).toInt32) &&& (858993459 : Int32))) + (((((a0 - (((a0.toUInt32 >>> ((1 : Int32).toUInt32 &&& Int32.toUInt32 31)).toInt32) &&& (1431655765 : Int32))) &&& (858993459 : Int32)) + ((((a0 - (((a0.toUInt32 >>> ((1 : Int32).toUInt32 &&& Int32.toUInt32 31)).toInt32) &&& (1431655765 : Int32))).toUInt32 >>> ((2 : Int32).toUInt32 &&& Int32.toUInt32 31)).toInt32) &&& (858993459 : Int32))).toUInt32 >>> ((4 : Int32).toUInt32 &&& Int32.toUInt32 31)).toInt32)) &&& (252645135 : Int32)).toUInt32 >>> ((8 : Int32).toUInt32 &&& Int32.toUInt32 31)).toInt32)) + ((((((((a0 - (((a0.toUInt32 >>> ((1 : Int32).toUInt32 &&& Int32.toUInt32 31)).toInt32) &&& (1431655765 : Int32))) &&& (858993459 : Int32)) + ((((a0 - (((a0.toUInt32 >>> ((1 : Int32).toUInt32 &&& Int32.toUInt32 31)).toInt32) &&& (1431655765 : Int32))).toUInt32 >>> ((2 : Int32).toUInt32 &&& Int32.toUInt32 31)).toInt32) &&& (858993459 : Int32))) + (((((a0 - (((a0.toUInt32 >>> ((1 : Int32).toUInt32 &&& Int32.toUInt32 31)).toInt32) &&& (1431655765 : Int32))) &&& (858993459 : Int32)) + ((((a0 - (((a0.toUInt32 >>> ((1 : Int32).toUInt32 &&& Int32.toUInt32 31)).toInt32) &&& (1431655765 : Int32))).toUInt32 >>> ((2 : Int32).toUInt32 &&& Int32.toUInt32 31)).toInt32) &&& (858993459 : Int32))).toUInt32 >>> ((4 : Int32).toUInt32 &&& Int32.toUInt32 31)).toInt32)) &&& (252645135 : Int32)) + (((((((a0 - (((a0.toUInt32 >>> ((1 : Int32).toUInt32 &&& Int32.toUInt32 31)).toInt32) &&& (1431655765 : Int32))) &&& (858993459 : Int32)) + ((((a0 - (((a0.toUInt32 >>> ((1 : Int32).toUInt32 &&& Int32.toUInt32 31)).toInt32) &&& (1431655765 : Int32))).toUInt32 >>> ((2 : Int32).toUInt32 &&& Int32.toUInt32 31)).toInt32) &&& (858993459 : Int32))) + (((((a0 - (((a0.toUInt32 >>> ((1 : Int32).toUInt32 &&& Int32.toUInt32 31)).toInt32) &&& (1431655765 : Int32))) &&& (858993459 : Int32)) + ((((a0 - (((a0.toUInt32 >>> ((1 : Int32).toUInt32 &&& Int32.toUInt32 31)).toInt32) &&& (1431655765 : Int32))).toUInt32 >>> ((2 : Int32).toUInt32 &&& Int32.toUInt32 31)).toInt32) &&& (858993459 : Int32))).toUInt32 >>> ((4 : Int32).toUInt32 &&& Int32.toUInt32 31)).toInt32)) &&& (252645135 : Int32)).toUInt32 >>> ((8 : Int32).toUInt32 &&& Int32.toUInt32 31)).toInt32)).toUInt32 >>> ((16 : Int32).toUInt32 &&& Int32.toUInt32 31)).toInt32)) &&& (63 : Int32), (), rfl, hf.symm, by rw [ht]; exact hP, va_K.moved hW.alike hK⟩, hS.F ht⟩) hS.2.2 d_JI_bitCount_52
set_option maxHeartbeats 4000000 in
set_option maxRecDepth 100000 in
theorem c_Board_mustOpen (l : Launch) (D : va_G) (cA : Nat → ClassId) (ad : Nat → Nat) (hI : InjA ad) (sz : Nat) (a1 : Int32) (a2 : Int32) (S : SS) (hs : f_Board_mustOpen a1 a2 S ≠ none) : Met l y_Board_mustOpen w_Board_mustOpen ({ frames := 0, cells := 0, slots := 0, locals := 0 }) (va_Pc [.ref (ad 2), .int a1, .int a2] (fun U => U.heap.size = sz ∧ va_P D vwCl (X cA ad S) U.heap ∧ va_K D vwCl (tysX cA) U)) (va_Qi (fun (r : Int32) (_ : Unit) => f_Board_mustOpen a1 a2 S = some r ∧ (r = 0 ∨ r = 1)) (fun (_ : Unit) t => va_P D vwCl (X cA ad S) t.heap ∧ va_K D vwCl (tysX cA) t) (AS ad sz)) 0 0 (AS ad sz) := by
  refine Met.ofW (cc := b_Board_mustOpen) (maxL := 3) (ret := (some .boolean)) (by decide) rfl ?_
  intro p e s m args below meth c s₁ B hml hv
  obtain ⟨rfl, hsz, hP, hK⟩ := hv
  have hx := B.exec
  have hb := B.bytes
  have hr := B.returns
  have hts := atoms_spec (ws := w_Board_mustOpen) B.pre
  have ht := fun w h => hts w (List.mem_cons_of_mem _ h)
  have hown : s.vm.findClass R_Board = some m.cls := findClass_of_methodNamed B.named
  have hlocks := B.notSynchronized
  subst hsz
  have hAd : ∀ q, q < NP → AS ad s.heap.size (ad q) := fun q h => Or.inl ⟨q, h, rfl⟩
  have hA : ∀ q : Nat, s.heap.size ≤ q → AS ad s.heap.size q := fun q h => Or.inr h
  have hAS : ∀ z : Nat, s.heap.size ≤ z → ∀ q : Nat, AS ad z q → AS ad s.heap.size q := fun z h q hq => hq.elim Or.inl (fun g => Or.inr (Nat.le_trans h g))
  generalize hAe : AS ad s.heap.size = A at hAd hA hAS ⊢
  have hS : va_S A s.heap s.heap [] := va_S.rf
  have hl := lv_entry ([.ref (ad 2), .int a1, .int a2]) (n := 3) (Nat.le_of_ble_eq_true rfl)
  rw [lg_entry_eq]
  generalize (lg_sl ([.ref (ad 2), .int a1, .int a2]) ++ List.replicate (3 - (lg_sl ([.ref (ad 2), .int a1, .int a2])).length) Slot.unset).toArray = ls at hl ⊢
  have hl : lv_has ls 3 [(0, .ref (ad 2)), (1, .int a1), (2, .int a2)] := hl
  have hf := (f_Board_mustOpen_s a1 a2 S).symm
  generalize hQ : MQ below _ _ s _ _ _ = Q
  refine lv_aload_n hx hb d_Board_mustOpen_0 rfl (lv_at hl 0 rfl) ?_
  refine va_get (D := D) (ci := 2) (v := .ref (ad 5)) (C := R_Board) (T := T_Board) (N := 7) hx hb ht i_Board hown hK hP 2 Xa_2 rfl 3 (by decide) (ht _ mF_Board_9) (fun _ h9 => h9) rfl d_Board_mustOpen_1 ?_
  refine lv_iload_n hx hb d_Board_mustOpen_4 rfl (lv_at hl 1 rfl) ?_
  by_cases b1 : oob a1 8
  · rw [if_pos b1] at hf; exact absurd hf.symm hs
  rw [if_neg b1] at hf
  refine va_iald (f := S.1 5) hx hb hK hP 5 0 Xa_5 rfl b1 d_Board_mustOpen_5 ?_
  refine lv_iload_n hx hb d_Board_mustOpen_6 rfl (lv_at hl 2 rfl) ?_
  refine lv_ishr hx hb d_Board_mustOpen_7 ?_
  refine lv_iconst (v := 1) hx hb d_Board_mustOpen_8 (by decide) ?_
  refine lv_iand hx hb d_Board_mustOpen_9 ?_
  refine lv_if_eq (tgt := 17) hx hb d_Board_mustOpen_10 (by decide) (fun c2 => ?_) (fun c2 => ?_)
  · rw [if_pos c2] at hf
    refine lv_iconst (v := 0) hx hb d_Board_mustOpen_17 (by decide) ?_
    rw [← hQ]
    have hz : (0 : Int32) = 0 ∨ (0 : Int32) = 1 := Or.inl rfl
    exact W.zret (v := (0 : Int32)) hx hb hr (zb_n hz) (fun t ht hW => ⟨⟨(0 : Int32), (), rfl, ⟨hf.symm, hz⟩, by rw [ht]; exact hP, va_K.moved hW.alike hK⟩, hS.F ht⟩) hS.2.2 d_Board_mustOpen_18
  · rw [if_neg c2] at hf
    refine lv_iconst (v := 1) hx hb d_Board_mustOpen_13 (by decide) ?_
    refine lv_goto (tgt := 18) hx hb d_Board_mustOpen_14 (by decide) ?_
    rw [← hQ]
    have hz : (1 : Int32) = 0 ∨ (1 : Int32) = 1 := Or.inr rfl
    exact W.zret (v := (1 : Int32)) hx hb hr (zb_n hz) (fun t ht hW => ⟨⟨(1 : Int32), (), rfl, ⟨hf.symm, hz⟩, by rw [ht]; exact hP, va_K.moved hW.alike hK⟩, hS.F ht⟩) hS.2.2 d_Board_mustOpen_18
set_option maxHeartbeats 4000000 in
set_option maxRecDepth 100000 in
theorem c_Board_tell (l : Launch) (D : va_G) (cA : Nat → ClassId) (ad : Nat → Nat) (hI : InjA ad) (sz : Nat) (a1 : Int32) (a2 : Int32) (a3 : Int32) (S : SS) (hs : f_Board_tell a1 a2 a3 S ≠ none) : Met l y_Board_tell w_Board_tell ({ frames := 0, cells := 0, slots := 0, locals := 0 }) (va_Pc [.ref (ad 2), .int a1, .int a2, .int a3] (fun U => U.heap.size = sz ∧ va_P D vwCl (X cA ad S) U.heap ∧ va_K D vwCl (tysX cA) U)) (va_Qv (fun (u : SS) => f_Board_tell a1 a2 a3 S = some u) (fun (u : SS) t => va_P D vwCl (X cA ad u) t.heap ∧ va_K D vwCl (tysX cA) t) (AS ad sz)) 0 0 (AS ad sz) := by
  refine Met.ofW (cc := b_Board_tell) (maxL := 4) (ret := none) (by decide) rfl ?_
  intro p e s m args below meth c s₁ B hml hv
  obtain ⟨rfl, hsz, hP, hK⟩ := hv
  have hx := B.exec
  have hb := B.bytes
  have hr := B.returns
  have hts := atoms_spec (ws := w_Board_tell) B.pre
  have ht := fun w h => hts w (List.mem_cons_of_mem _ h)
  have hown : s.vm.findClass R_Board = some m.cls := findClass_of_methodNamed B.named
  have hlocks := B.notSynchronized
  subst hsz
  have hAd : ∀ q, q < NP → AS ad s.heap.size (ad q) := fun q h => Or.inl ⟨q, h, rfl⟩
  have hA : ∀ q : Nat, s.heap.size ≤ q → AS ad s.heap.size q := fun q h => Or.inr h
  have hAS : ∀ z : Nat, s.heap.size ≤ z → ∀ q : Nat, AS ad z q → AS ad s.heap.size q := fun z h q hq => hq.elim Or.inl (fun g => Or.inr (Nat.le_trans h g))
  generalize hAe : AS ad s.heap.size = A at hAd hA hAS ⊢
  have hS : va_S A s.heap s.heap [] := va_S.rf
  have hl := lv_entry ([.ref (ad 2), .int a1, .int a2, .int a3]) (n := 4) (Nat.le_of_ble_eq_true rfl)
  rw [lg_entry_eq]
  generalize (lg_sl ([.ref (ad 2), .int a1, .int a2, .int a3]) ++ List.replicate (4 - (lg_sl ([.ref (ad 2), .int a1, .int a2, .int a3])).length) Slot.unset).toArray = ls at hl ⊢
  have hl : lv_has ls 4 [(0, .ref (ad 2)), (1, .int a1), (2, .int a2), (3, .int a3)] := hl
  have hf := (f_Board_tell_s a1 a2 a3 S).symm
  generalize hQ : MQ below _ _ s _ _ _ = Q
  refine lv_iload_n hx hb d_Board_tell_0 rfl (lv_at hl 3 rfl) ?_
  refine lv_if_eq (tgt := 19) hx hb d_Board_tell_1 (by decide) (fun c1 => ?_) (fun c1 => ?_)
  · rw [if_pos c1] at hf
    refine lv_aload_n hx hb d_Board_tell_19 rfl (lv_at hl 0 rfl) ?_
    refine va_get (D := D) (ci := 2) (v := .ref (ad 5)) (C := R_Board) (T := T_Board) (N := 7) hx hb ht i_Board hown hK hP 2 Xa_2 rfl 3 (by decide) (ht _ mF_Board_9) (fun _ h9 => h9) rfl d_Board_tell_20 ?_
    refine lv_iload_n hx hb d_Board_tell_23 rfl (lv_at hl 1 rfl) ?_
    refine lv_dup2_11 hx hb d_Board_tell_24 rfl rfl ?_
    by_cases b2 : oob a1 8
    · rw [if_pos b2] at hf; exact absurd hf.symm hs
    rw [if_neg b2] at hf
    refine va_iald (f := S.1 5) hx hb hK hP 5 0 Xa_5 rfl b2 d_Board_tell_25 ?_
    refine lv_iconst (v := 1) hx hb d_Board_tell_26 (by decide) ?_
    refine lv_iload_n hx hb d_Board_tell_27 rfl (lv_at hl 2 rfl) ?_
    refine lv_ishl hx hb d_Board_tell_28 ?_
    refine lv_iconst (v := (-1)) hx hb d_Board_tell_29 (by decide) ?_
    refine lv_ixor hx hb d_Board_tell_30 ?_
    refine lv_iand hx hb d_Board_tell_31 ?_
    refine va_iast hx hb hK hP (X_D hI hAd) hS 5 0 Xa_5 rfl b2 d_Board_tell_32 (fun H locs hP _ hS => ?_)
    replace hP := X_stI (by decide) Xc_5 hP
    rw [← hQ]
    exact W.vret hx hb hr (fun t ht hW => ⟨⟨wI S 5 a1.toNatClampNeg ((S.1 5 a1.toNatClampNeg) &&& (((1 : Int32) <<< (a2 &&& 31)) ^^^ (-1 : Int32))), rfl, hf.symm, by rw [ht]; exact hP, va_K.moved hW.alike hK⟩, hS.F ht⟩) hS.2.2 d_Board_tell_33
  · rw [if_neg c1] at hf
    refine lv_aload_n hx hb d_Board_tell_4 rfl (lv_at hl 0 rfl) ?_
    refine va_get (D := D) (ci := 2) (v := .ref (ad 5)) (C := R_Board) (T := T_Board) (N := 7) hx hb ht i_Board hown hK hP 2 Xa_2 rfl 3 (by decide) (ht _ mF_Board_9) (fun _ h9 => h9) rfl d_Board_tell_5 ?_
    refine lv_iload_n hx hb d_Board_tell_8 rfl (lv_at hl 1 rfl) ?_
    refine lv_dup2_11 hx hb d_Board_tell_9 rfl rfl ?_
    by_cases b3 : oob a1 8
    · rw [if_pos b3] at hf; exact absurd hf.symm hs
    rw [if_neg b3] at hf
    refine va_iald (f := S.1 5) hx hb hK hP 5 0 Xa_5 rfl b3 d_Board_tell_10 ?_
    refine lv_iconst (v := 1) hx hb d_Board_tell_11 (by decide) ?_
    refine lv_iload_n hx hb d_Board_tell_12 rfl (lv_at hl 2 rfl) ?_
    refine lv_ishl hx hb d_Board_tell_13 ?_
    refine lv_ior hx hb d_Board_tell_14 ?_
    refine va_iast hx hb hK hP (X_D hI hAd) hS 5 0 Xa_5 rfl b3 d_Board_tell_15 (fun H locs hP _ hS => ?_)
    replace hP := X_stI (by decide) Xc_5 hP
    refine lv_goto (tgt := 33) hx hb d_Board_tell_16 (by decide) ?_
    rw [← hQ]
    exact W.vret hx hb hr (fun t ht hW => ⟨⟨wI S 5 a1.toNatClampNeg ((S.1 5 a1.toNatClampNeg) ||| ((1 : Int32) <<< (a2 &&& 31))), rfl, hf.symm, by rw [ht]; exact hP, va_K.moved hW.alike hK⟩, hS.F ht⟩) hS.2.2 d_Board_tell_33
set_option maxHeartbeats 4000000 in
set_option maxRecDepth 100000 in
theorem c_Law_pairBit (l : Launch) (D : va_G) (cA : Nat → ClassId) (ad : Nat → Nat) (hI : InjA ad) (sz : Nat) (a0 : Int32) (a1 : Int32) (S : SS) (hs : f_Law_pairBit a0 a1 S ≠ none) : Met l y_Law_pairBit w_Law_pairBit ({ frames := 0, cells := 0, slots := 0, locals := 0 }) (va_Pc [.int a0, .int a1] (fun U => U.heap.size = sz ∧ va_P D vwCl (X cA ad S) U.heap ∧ va_K D vwCl (tysX cA) U)) (va_Ql (fun (r : Int64) (_ : Unit) => f_Law_pairBit a0 a1 S = some r) (fun (_ : Unit) t => va_P D vwCl (X cA ad S) t.heap ∧ va_K D vwCl (tysX cA) t) (AS ad sz)) 0 0 (AS ad sz) := by
  refine Met.ofW (cc := b_Law_pairBit) (maxL := 2) (ret := (some .long)) (by decide) rfl ?_
  intro p e s m args below meth c s₁ B hml hv
  obtain ⟨rfl, hsz, hP, hK⟩ := hv
  have hx := B.exec
  have hb := B.bytes
  have hr := B.returns
  have hts := atoms_spec (ws := w_Law_pairBit) B.pre
  have ht := fun w h => hts w (List.mem_cons_of_mem _ h)
  have hown : s.vm.findClass R_Law = some m.cls := findClass_of_methodNamed B.named
  have hlocks := B.notSynchronized
  subst hsz
  have hAd : ∀ q, q < NP → AS ad s.heap.size (ad q) := fun q h => Or.inl ⟨q, h, rfl⟩
  have hA : ∀ q : Nat, s.heap.size ≤ q → AS ad s.heap.size q := fun q h => Or.inr h
  have hAS : ∀ z : Nat, s.heap.size ≤ z → ∀ q : Nat, AS ad z q → AS ad s.heap.size q := fun z h q hq => hq.elim Or.inl (fun g => Or.inr (Nat.le_trans h g))
  generalize hAe : AS ad s.heap.size = A at hAd hA hAS ⊢
  have hS : va_S A s.heap s.heap [] := va_S.rf
  have hl := lv_entry ([.int a0, .int a1]) (n := 2) (Nat.le_of_ble_eq_true rfl)
  rw [lg_entry_eq]
  generalize (lg_sl ([.int a0, .int a1]) ++ List.replicate (2 - (lg_sl ([.int a0, .int a1])).length) Slot.unset).toArray = ls at hl ⊢
  have hl : lv_has ls 2 [(0, .int a0), (1, .int a1)] := hl
  have hf := (f_Law_pairBit_s a0 a1 S).symm
  generalize hQ : MQ below _ _ s _ _ _ = Q
  refine lv_lconst (v := 1) hx hb d_Law_pairBit_0 (by decide) ?_
  refine lv_iload_n hx hb d_Law_pairBit_1 rfl (lv_at hl 0 rfl) ?_
  refine lv_bipush (v := 8) hx hb d_Law_pairBit_2 (by decide) ?_
  refine lv_imul hx hb d_Law_pairBit_4 ?_
  refine lv_iload_n hx hb d_Law_pairBit_5 rfl (lv_at hl 1 rfl) ?_
  refine lv_iadd hx hb d_Law_pairBit_6 ?_
  refine lv_lshl hx hb d_Law_pairBit_7 rfl ?_
  rw [← hQ]
  exact W.lret (v := (1 : Int64) <<< (((a0 * (8 : Int32)) + a1).toInt64 &&& 63)) hx hb hr (fun t ht hW => ⟨⟨(1 : Int64) <<< (((a0 * (8 : Int32)) + a1).toInt64 &&& 63), (), rfl, hf.symm, by rw [ht]; exact hP, va_K.moved hW.alike hK⟩, hS.F ht⟩) hS.2.2 d_Law_pairBit_8
set_option maxHeartbeats 4000000 in
set_option maxRecDepth 100000 in
theorem c_Law_isBarred (l : Launch) (D : va_G) (cA : Nat → ClassId) (ad : Nat → Nat) (hI : InjA ad) (sz : Nat) (a1 : Int32) (a2 : Int32) (S : SS) (hs : f_Law_isBarred a1 a2 S ≠ none) : Met l y_Law_isBarred w_Law_isBarred ({ frames := 1, cells := 0, slots := 0, locals := 21 }) (va_Pc [.ref (ad 1), .int a1, .int a2] (fun U => U.heap.size = sz ∧ va_P D vwCl (X cA ad S) U.heap ∧ va_K D vwCl (tysX cA) U)) (va_Qi (fun (r : Int32) (_ : Unit) => f_Law_isBarred a1 a2 S = some r ∧ (r = 0 ∨ r = 1)) (fun (_ : Unit) t => va_P D vwCl (X cA ad S) t.heap ∧ va_K D vwCl (tysX cA) t) (AS ad sz)) 0 0 (AS ad sz) := by
  refine Met.ofW (cc := b_Law_isBarred) (maxL := 3) (ret := (some .boolean)) (by decide) rfl ?_
  intro p e s m args below meth c s₁ B hml hv
  obtain ⟨rfl, hsz, hP, hK⟩ := hv
  have hx := B.exec
  have hb := B.bytes
  have hr := B.returns
  have hts := atoms_spec (ws := w_Law_isBarred) B.pre
  have ht := fun w h => hts w (List.mem_cons_of_mem _ h)
  have hown : s.vm.findClass R_Law = some m.cls := findClass_of_methodNamed B.named
  have hlocks := B.notSynchronized
  subst hsz
  have hAd : ∀ q, q < NP → AS ad s.heap.size (ad q) := fun q h => Or.inl ⟨q, h, rfl⟩
  have hA : ∀ q : Nat, s.heap.size ≤ q → AS ad s.heap.size q := fun q h => Or.inr h
  have hAS : ∀ z : Nat, s.heap.size ≤ z → ∀ q : Nat, AS ad z q → AS ad s.heap.size q := fun z h q hq => hq.elim Or.inl (fun g => Or.inr (Nat.le_trans h g))
  generalize hAe : AS ad s.heap.size = A at hAd hA hAS ⊢
  have hS : va_S A s.heap s.heap [] := va_S.rf
  have hl := lv_entry ([.ref (ad 1), .int a1, .int a2]) (n := 3) (Nat.le_of_ble_eq_true rfl)
  rw [lg_entry_eq]
  generalize (lg_sl ([.ref (ad 1), .int a1, .int a2]) ++ List.replicate (3 - (lg_sl ([.ref (ad 1), .int a1, .int a2])).length) Slot.unset).toArray = ls at hl ⊢
  have hl : lv_has ls 3 [(0, .ref (ad 1)), (1, .int a1), (2, .int a2)] := hl
  have hf := (f_Law_isBarred_s a1 a2 S).symm
  generalize hQ : MQ below _ _ s _ _ _ = Q
  refine lv_aload_n hx hb d_Law_isBarred_0 rfl (lv_at hl 0 rfl) ?_
  refine va_get (D := D) (ci := 1) (v := .long (S.2 1 4)) (C := R_Law) (T := T_Law) (N := 5) hx hb ht i_Law hown hK hP 1 Xa_1 rfl 4 (by decide) (ht _ mF_Law_24) (fun _ h9 => h9) rfl d_Law_isBarred_1 ?_
  refine lv_iload_n hx hb d_Law_isBarred_4 rfl (lv_at hl 1 rfl) ?_
  refine lv_iload_n hx hb d_Law_isBarred_5 rfl (lv_at hl 2 rfl) ?_
  refine va_calll (va_runS (As := [.int a1, .int a2]) (rest := [.long (S.2 1 4)]) ⟨hx, hb, hml, hown, ht⟩ (c_Law_pairBit l D cA ad hI s.heap.size a1 a2 S (fun hn => hs (by rw [hn] at hf; exact hf.symm))) (va_cwS 2 ht (good_G (gS mM_Law_28 mS_Law_pairBit mN_Law mk_Law_pairBit)) rfl rfl rfl (by decide +kernel) ⟨Nat.le_of_ble_eq_true rfl, Nat.le_of_ble_eq_true rfl⟩) ⟨fun a U g mk q => ⟨q.1, q.2.1, q.2.2.1, va_K.moved (u := U) (U := U.calling g mk a) (Vm.Alike.refl U.vm) q.2.2.2⟩, fun U hU hW => ⟨rfl, by rw [hU], by rw [hU]; exact hP, va_K.moved hW.alike hK⟩⟩ rfl rfl hl.1 rfl (lv_room (Nat.le_of_ble_eq_true rfl)) d_Law_isBarred_6 ⟨Nat.le_of_ble_eq_true rfl, Nat.le_of_ble_eq_true rfl⟩) hS (fun q _ h => hAS _ hS.1 q h) (fun q h => hAS _ hS.1 q h) (fun r1 _ t H locs ht9 hvm hw hB hz1 hk1 hS => ?_)
  obtain ⟨hP, hK9⟩ := hB
  rw [ht9] at hP
  rw [hw, Option.bind_some] at hf
  refine lv_land hx hb d_Law_isBarred_9 ?_
  refine lv_lconst (v := 0) hx hb d_Law_isBarred_10 (by decide) ?_
  refine W.lcmp hx hb d_Law_isBarred_11 ?_
  refine lv_if_eq (tgt := 19) hx hb d_Law_isBarred_12 (by decide) (fun c1 => ?_) (fun c1 => ?_)
  · rw [if_pos c1] at hf
    refine lv_iconst (v := 0) hx hb d_Law_isBarred_19 (by decide) ?_
    rw [← hQ]
    have hz : (0 : Int32) = 0 ∨ (0 : Int32) = 1 := Or.inl rfl
    exact W.zret (v := (0 : Int32)) hx hb hr (zb_n hz) (fun t ht hW => ⟨⟨(0 : Int32), (), rfl, ⟨hf.symm, hz⟩, by rw [ht]; exact hP, va_K.moved hW.alike hK⟩, hS.F ht⟩) hS.2.2 d_Law_isBarred_20
  · rw [if_neg c1] at hf
    refine lv_iconst (v := 1) hx hb d_Law_isBarred_15 (by decide) ?_
    refine lv_goto (tgt := 20) hx hb d_Law_isBarred_16 (by decide) ?_
    rw [← hQ]
    have hz : (1 : Int32) = 0 ∨ (1 : Int32) = 1 := Or.inr rfl
    exact W.zret (v := (1 : Int32)) hx hb hr (zb_n hz) (fun t ht hW => ⟨⟨(1 : Int32), (), rfl, ⟨hf.symm, hz⟩, by rw [ht]; exact hP, va_K.moved hW.alike hK⟩, hS.F ht⟩) hS.2.2 d_Law_isBarred_20
set_option maxHeartbeats 4000000 in
set_option maxRecDepth 100000 in
theorem c_Law_setBarred (l : Launch) (D : va_G) (cA : Nat → ClassId) (ad : Nat → Nat) (hI : InjA ad) (sz : Nat) (a1 : Int32) (a2 : Int32) (a3 : Int32) (S : SS) (hs : f_Law_setBarred a1 a2 a3 S ≠ none) : Met l y_Law_setBarred w_Law_setBarred ({ frames := 1, cells := 0, slots := 0, locals := 21 }) (va_Pc [.ref (ad 1), .int a1, .int a2, .int a3] (fun U => U.heap.size = sz ∧ va_P D vwCl (X cA ad S) U.heap ∧ va_K D vwCl (tysX cA) U)) (va_Qv (fun (u : SS) => f_Law_setBarred a1 a2 a3 S = some u) (fun (u : SS) t => va_P D vwCl (X cA ad u) t.heap ∧ va_K D vwCl (tysX cA) t) (AS ad sz)) 0 0 (AS ad sz) := by
  refine Met.ofW (cc := b_Law_setBarred) (maxL := 4) (ret := none) (by decide) rfl ?_
  intro p e s m args below meth c s₁ B hml hv
  obtain ⟨rfl, hsz, hP, hK⟩ := hv
  have hx := B.exec
  have hb := B.bytes
  have hr := B.returns
  have hts := atoms_spec (ws := w_Law_setBarred) B.pre
  have ht := fun w h => hts w (List.mem_cons_of_mem _ h)
  have hown : s.vm.findClass R_Law = some m.cls := findClass_of_methodNamed B.named
  have hlocks := B.notSynchronized
  subst hsz
  have hAd : ∀ q, q < NP → AS ad s.heap.size (ad q) := fun q h => Or.inl ⟨q, h, rfl⟩
  have hA : ∀ q : Nat, s.heap.size ≤ q → AS ad s.heap.size q := fun q h => Or.inr h
  have hAS : ∀ z : Nat, s.heap.size ≤ z → ∀ q : Nat, AS ad z q → AS ad s.heap.size q := fun z h q hq => hq.elim Or.inl (fun g => Or.inr (Nat.le_trans h g))
  generalize hAe : AS ad s.heap.size = A at hAd hA hAS ⊢
  have hS : va_S A s.heap s.heap [] := va_S.rf
  have hl := lv_entry ([.ref (ad 1), .int a1, .int a2, .int a3]) (n := 4) (Nat.le_of_ble_eq_true rfl)
  rw [lg_entry_eq]
  generalize (lg_sl ([.ref (ad 1), .int a1, .int a2, .int a3]) ++ List.replicate (4 - (lg_sl ([.ref (ad 1), .int a1, .int a2, .int a3])).length) Slot.unset).toArray = ls at hl ⊢
  have hl : lv_has ls 4 [(0, .ref (ad 1)), (1, .int a1), (2, .int a2), (3, .int a3)] := hl
  have hf := (f_Law_setBarred_s a1 a2 a3 S).symm
  generalize hQ : MQ below _ _ s _ _ _ = Q
  refine lv_iload_n hx hb d_Law_setBarred_0 rfl (lv_at hl 3 rfl) ?_
  refine lv_if_eq (tgt := 21) hx hb d_Law_setBarred_1 (by decide) (fun c1 => ?_) (fun c1 => ?_)
  · rw [if_pos c1] at hf
    refine lv_aload_n hx hb d_Law_setBarred_21 rfl (lv_at hl 0 rfl) ?_
    refine lv_dup hx hb d_Law_setBarred_22 rfl ?_
    refine va_get (D := D) (ci := 1) (v := .long (S.2 1 4)) (C := R_Law) (T := T_Law) (N := 5) hx hb ht i_Law hown hK hP 1 Xa_1 rfl 4 (by decide) (ht _ mF_Law_24) (fun _ h9 => h9) rfl d_Law_setBarred_23 ?_
    refine lv_iload_n hx hb d_Law_setBarred_26 rfl (lv_at hl 1 rfl) ?_
    refine lv_iload_n hx hb d_Law_setBarred_27 rfl (lv_at hl 2 rfl) ?_
    refine va_calll (va_runS (As := [.int a1, .int a2]) (rest := [.long (S.2 1 4), .ref (ad 1)]) ⟨hx, hb, hml, hown, ht⟩ (c_Law_pairBit l D cA ad hI s.heap.size a1 a2 S (fun hn => hs (by rw [hn] at hf; exact hf.symm))) (va_cwS 2 ht (good_G (gS mM_Law_28 mS_Law_pairBit mN_Law mk_Law_pairBit)) rfl rfl rfl (by decide +kernel) ⟨Nat.le_of_ble_eq_true rfl, Nat.le_of_ble_eq_true rfl⟩) ⟨fun a U g mk q => ⟨q.1, q.2.1, q.2.2.1, va_K.moved (u := U) (U := U.calling g mk a) (Vm.Alike.refl U.vm) q.2.2.2⟩, fun U hU hW => ⟨rfl, by rw [hU], by rw [hU]; exact hP, va_K.moved hW.alike hK⟩⟩ rfl rfl hl.1 rfl (lv_room (Nat.le_of_ble_eq_true rfl)) d_Law_setBarred_28 ⟨Nat.le_of_ble_eq_true rfl, Nat.le_of_ble_eq_true rfl⟩) hS (fun q _ h => hAS _ hS.1 q h) (fun q h => hAS _ hS.1 q h) (fun r1 _ t H locs ht9 hvm hw hB hz1 hk1 hS => ?_)
    obtain ⟨hP, hK9⟩ := hB
    rw [ht9] at hP
    rw [hw, Option.bind_some] at hf
    refine lv_ldc2 (v := (-1)) hx hb hown (ht _ mC_Law_32) d_Law_setBarred_31 ?_
    refine lv_lxor hx hb d_Law_setBarred_34 ?_
    refine lv_land hx hb d_Law_setBarred_35 ?_
    refine va_put (D := D) (ci := 1) (v := .long ((S.2 1 4) &&& (r1 ^^^ (-1 : Int64)))) (ty := .long) (C := R_Law) (T := T_Law) (N := 5) hx hb ht i_Law t_Law t_Law_ok n_Law hown hK hP (X_D hI hAd) hS 1 Xa_1 rfl 4 (by decide) (ht _ mF_Law_24) (fun _ h9 => h9) rfl (by decide +kernel) rfl rfl (Nat.le_of_ble_eq_true rfl) d_Law_setBarred_36 (fun H locs hP _ hS => ?_)
    replace hP := X_putL (by decide) hP rfl
    rw [← hQ]
    exact W.vret hx hb hr (fun t ht hW => ⟨⟨wL S 1 4 ((S.2 1 4) &&& (r1 ^^^ (-1 : Int64))), rfl, hf.symm, by rw [ht]; exact hP, va_K.moved hW.alike hK⟩, hS.F ht⟩) hS.2.2 d_Law_setBarred_39
  · rw [if_neg c1] at hf
    refine lv_aload_n hx hb d_Law_setBarred_4 rfl (lv_at hl 0 rfl) ?_
    refine lv_dup hx hb d_Law_setBarred_5 rfl ?_
    refine va_get (D := D) (ci := 1) (v := .long (S.2 1 4)) (C := R_Law) (T := T_Law) (N := 5) hx hb ht i_Law hown hK hP 1 Xa_1 rfl 4 (by decide) (ht _ mF_Law_24) (fun _ h9 => h9) rfl d_Law_setBarred_6 ?_
    refine lv_iload_n hx hb d_Law_setBarred_9 rfl (lv_at hl 1 rfl) ?_
    refine lv_iload_n hx hb d_Law_setBarred_10 rfl (lv_at hl 2 rfl) ?_
    refine va_calll (va_runS (As := [.int a1, .int a2]) (rest := [.long (S.2 1 4), .ref (ad 1)]) ⟨hx, hb, hml, hown, ht⟩ (c_Law_pairBit l D cA ad hI s.heap.size a1 a2 S (fun hn => hs (by rw [hn] at hf; exact hf.symm))) (va_cwS 2 ht (good_G (gS mM_Law_28 mS_Law_pairBit mN_Law mk_Law_pairBit)) rfl rfl rfl (by decide +kernel) ⟨Nat.le_of_ble_eq_true rfl, Nat.le_of_ble_eq_true rfl⟩) ⟨fun a U g mk q => ⟨q.1, q.2.1, q.2.2.1, va_K.moved (u := U) (U := U.calling g mk a) (Vm.Alike.refl U.vm) q.2.2.2⟩, fun U hU hW => ⟨rfl, by rw [hU], by rw [hU]; exact hP, va_K.moved hW.alike hK⟩⟩ rfl rfl hl.1 rfl (lv_room (Nat.le_of_ble_eq_true rfl)) d_Law_setBarred_11 ⟨Nat.le_of_ble_eq_true rfl, Nat.le_of_ble_eq_true rfl⟩) hS (fun q _ h => hAS _ hS.1 q h) (fun q h => hAS _ hS.1 q h) (fun r2 _ t H locs ht9 hvm hw hB hz1 hk1 hS => ?_)
    obtain ⟨hP, hK9⟩ := hB
    rw [ht9] at hP
    rw [hw, Option.bind_some] at hf
    refine lv_lor hx hb d_Law_setBarred_14 ?_
    refine va_put (D := D) (ci := 1) (v := .long ((S.2 1 4) ||| r2)) (ty := .long) (C := R_Law) (T := T_Law) (N := 5) hx hb ht i_Law t_Law t_Law_ok n_Law hown hK hP (X_D hI hAd) hS 1 Xa_1 rfl 4 (by decide) (ht _ mF_Law_24) (fun _ h9 => h9) rfl (by decide +kernel) rfl rfl (Nat.le_of_ble_eq_true rfl) d_Law_setBarred_15 (fun H locs hP _ hS => ?_)
    replace hP := X_putL (by decide) hP rfl
    refine lv_goto (tgt := 39) hx hb d_Law_setBarred_18 (by decide) ?_
    rw [← hQ]
    exact W.vret hx hb hr (fun t ht hW => ⟨⟨wL S 1 4 ((S.2 1 4) ||| r2), rfl, hf.symm, by rw [ht]; exact hP, va_K.moved hW.alike hK⟩, hS.F ht⟩) hS.2.2 d_Law_setBarred_39
set_option maxHeartbeats 4000000 in
set_option maxRecDepth 100000 in
theorem c_Law_mayFollow (l : Launch) (D : va_G) (cA : Nat → ClassId) (ad : Nat → Nat) (hI : InjA ad) (sz : Nat) (a1 : Int32) (a2 : Int32) (S : SS) (hs : f_Law_mayFollow a1 a2 S ≠ none) : Met l y_Law_mayFollow w_Law_mayFollow ({ frames := 2, cells := 0, slots := 0, locals := 43 }) (va_Pc [.ref (ad 1), .int a1, .int a2] (fun U => U.heap.size = sz ∧ va_P D vwCl (X cA ad S) U.heap ∧ va_K D vwCl (tysX cA) U)) (va_Qi (fun (r : Int32) (_ : Unit) => f_Law_mayFollow a1 a2 S = some r ∧ (r = 0 ∨ r = 1)) (fun (_ : Unit) t => va_P D vwCl (X cA ad S) t.heap ∧ va_K D vwCl (tysX cA) t) (AS ad sz)) 0 0 (AS ad sz) := by
  refine Met.ofW (cc := b_Law_mayFollow) (maxL := 3) (ret := (some .boolean)) (by decide) rfl ?_
  intro p e s m args below meth c s₁ B hml hv
  obtain ⟨rfl, hsz, hP, hK⟩ := hv
  have hx := B.exec
  have hb := B.bytes
  have hr := B.returns
  have hts := atoms_spec (ws := w_Law_mayFollow) B.pre
  have ht := fun w h => hts w (List.mem_cons_of_mem _ h)
  have hown : s.vm.findClass R_Law = some m.cls := findClass_of_methodNamed B.named
  have hlocks := B.notSynchronized
  subst hsz
  have hAd : ∀ q, q < NP → AS ad s.heap.size (ad q) := fun q h => Or.inl ⟨q, h, rfl⟩
  have hA : ∀ q : Nat, s.heap.size ≤ q → AS ad s.heap.size q := fun q h => Or.inr h
  have hAS : ∀ z : Nat, s.heap.size ≤ z → ∀ q : Nat, AS ad z q → AS ad s.heap.size q := fun z h q hq => hq.elim Or.inl (fun g => Or.inr (Nat.le_trans h g))
  generalize hAe : AS ad s.heap.size = A at hAd hA hAS ⊢
  have hS : va_S A s.heap s.heap [] := va_S.rf
  have hl := lv_entry ([.ref (ad 1), .int a1, .int a2]) (n := 3) (Nat.le_of_ble_eq_true rfl)
  rw [lg_entry_eq]
  generalize (lg_sl ([.ref (ad 1), .int a1, .int a2]) ++ List.replicate (3 - (lg_sl ([.ref (ad 1), .int a1, .int a2])).length) Slot.unset).toArray = ls at hl ⊢
  have hl : lv_has ls 3 [(0, .ref (ad 1)), (1, .int a1), (2, .int a2)] := hl
  have hf := (f_Law_mayFollow_s a1 a2 S).symm
  generalize hQ : MQ below _ _ s _ _ _ = Q
  refine lv_iload_n hx hb d_Law_mayFollow_0 rfl (lv_at hl 2 rfl) ?_
  refine lv_iload_n hx hb d_Law_mayFollow_1 rfl (lv_at hl 1 rfl) ?_
  refine lv_isub hx hb d_Law_mayFollow_2 ?_
  refine va_mabs hx hb (hml.trans hl.1.symm) hown (ht _ mM_Law_34) (ht _ mS_Math_abs) (ht _ mN_Math) (ht _ mk_Math_abs) (Nat.le_of_ble_eq_true rfl) (Nat.le_of_ble_eq_true rfl) (Nat.le_of_ble_eq_true rfl) (Nat.le_of_ble_eq_true rfl) d_Law_mayFollow_3 ?_
  refine lv_aload_n hx hb d_Law_mayFollow_6 rfl (lv_at hl 0 rfl) ?_
  refine va_get (D := D) (ci := 1) (v := .int (S.1 1 2)) (C := R_Law) (T := T_Law) (N := 5) hx hb ht i_Law hown hK hP 1 Xa_1 rfl 2 (by decide) (ht _ mF_Law_9) (fun _ h9 => h9) rfl d_Law_mayFollow_7 ?_
  refine lv_icmp_gt (tgt := 26) hx hb d_Law_mayFollow_10 (by decide) (fun c1 => ?_) (fun c1 => ?_)
  · rw [if_pos c1] at hf
    refine lv_iconst (v := 0) hx hb d_Law_mayFollow_26 (by decide) ?_
    rw [← hQ]
    have hz : (0 : Int32) = 0 ∨ (0 : Int32) = 1 := Or.inl rfl
    exact W.zret (v := (0 : Int32)) hx hb hr (zb_n hz) (fun t ht hW => ⟨⟨(0 : Int32), (), rfl, ⟨hf.symm, hz⟩, by rw [ht]; exact hP, va_K.moved hW.alike hK⟩, hS.F ht⟩) hS.2.2 d_Law_mayFollow_27
  · rw [if_neg c1] at hf
    refine lv_aload_n hx hb d_Law_mayFollow_13 rfl (lv_at hl 0 rfl) ?_
    refine lv_iload_n hx hb d_Law_mayFollow_14 rfl (lv_at hl 1 rfl) ?_
    refine lv_iload_n hx hb d_Law_mayFollow_15 rfl (lv_at hl 2 rfl) ?_
    refine va_calli (va_runV (As := [.int a1, .int a2]) (rest := []) ⟨hx, hb, hml, hown, ht⟩ (c_Law_isBarred l D cA ad hI s.heap.size a1 a2 S (fun hn => hs (by rw [hn] at hf; exact hf.symm))) (cwV 2 ht (good_G (gV mM_Law_40 mI_Law_isBarred mV_Law_isBarred mN_Law mk_Law_isBarred)) rfl rfl rfl (by decide +kernel) ⟨Nat.le_of_ble_eq_true rfl, Nat.le_of_ble_eq_true rfl⟩) ⟨fun a U g mk q => ⟨q.1, q.2.1, q.2.2.1, va_K.moved (u := U) (U := U.calling g mk a) (Vm.Alike.refl U.vm) q.2.2.2⟩, va_recv hK hP (ci := 1) (q0 := 1) rfl Xa_1, fun U hU hW => ⟨rfl, by rw [hU], by rw [hU]; exact hP, va_K.moved hW.alike hK⟩⟩ rfl rfl hl.1 rfl (lv_room (Nat.le_of_ble_eq_true rfl)) d_Law_mayFollow_16 ⟨Nat.le_of_ble_eq_true rfl, Nat.le_of_ble_eq_true rfl⟩) hS (fun q _ h => hAS _ hS.1 q h) (fun q h => hAS _ hS.1 q h) (fun r1 _ t H locs ht9 hvm hw hB hz1 hk1 hS => ?_)
    obtain ⟨hP, hK9⟩ := hB
    rw [ht9] at hP
    obtain ⟨hw, hz1⟩ := hw
    rw [hw, Option.bind_some] at hf
    refine lv_if_ne (tgt := 26) hx hb d_Law_mayFollow_19 (by decide) (fun c2 => ?_) (fun c2 => ?_)
    · rw [if_neg c2] at hf
      refine lv_iconst (v := 0) hx hb d_Law_mayFollow_26 (by decide) ?_
      rw [← hQ]
      have hz : (0 : Int32) = 0 ∨ (0 : Int32) = 1 := Or.inl rfl
      exact W.zret (v := (0 : Int32)) hx hb hr (zb_n hz) (fun t ht hW => ⟨⟨(0 : Int32), (), rfl, ⟨hf.symm, hz⟩, by rw [ht]; exact hP, va_K.moved hW.alike hK⟩, hS.F ht⟩) hS.2.2 d_Law_mayFollow_27
    · rw [if_pos c2] at hf
      refine lv_iconst (v := 1) hx hb d_Law_mayFollow_22 (by decide) ?_
      refine lv_goto (tgt := 27) hx hb d_Law_mayFollow_23 (by decide) ?_
      rw [← hQ]
      have hz : (1 : Int32) = 0 ∨ (1 : Int32) = 1 := Or.inr rfl
      exact W.zret (v := (1 : Int32)) hx hb hr (zb_n hz) (fun t ht hW => ⟨⟨(1 : Int32), (), rfl, ⟨hf.symm, hz⟩, by rw [ht]; exact hP, va_K.moved hW.alike hK⟩, hS.F ht⟩) hS.2.2 d_Law_mayFollow_27
set_option maxHeartbeats 4000000 in
set_option maxRecDepth 100000 in
theorem c_Board_bit (l : Launch) (D : va_G) (cA : Nat → ClassId) (ad : Nat → Nat) (hI : InjA ad) (sz : Nat) (a0 : Int32) (a1 : Int32) (S : SS) (hs : f_Board_bit a0 a1 S ≠ none) : Met l y_Board_bit w_Board_bit ({ frames := 0, cells := 0, slots := 0, locals := 0 }) (va_Pc [.int a0, .int a1] (fun U => U.heap.size = sz ∧ va_P D vwCl (X cA ad S) U.heap ∧ va_K D vwCl (tysX cA) U)) (va_Ql (fun (r : Int64) (_ : Unit) => f_Board_bit a0 a1 S = some r) (fun (_ : Unit) t => va_P D vwCl (X cA ad S) t.heap ∧ va_K D vwCl (tysX cA) t) (AS ad sz)) 0 0 (AS ad sz) := by
  refine Met.ofW (cc := b_Board_bit) (maxL := 2) (ret := (some .long)) (by decide) rfl ?_
  intro p e s m args below meth c s₁ B hml hv
  obtain ⟨rfl, hsz, hP, hK⟩ := hv
  have hx := B.exec
  have hb := B.bytes
  have hr := B.returns
  have hts := atoms_spec (ws := w_Board_bit) B.pre
  have ht := fun w h => hts w (List.mem_cons_of_mem _ h)
  have hown : s.vm.findClass R_Board = some m.cls := findClass_of_methodNamed B.named
  have hlocks := B.notSynchronized
  subst hsz
  have hAd : ∀ q, q < NP → AS ad s.heap.size (ad q) := fun q h => Or.inl ⟨q, h, rfl⟩
  have hA : ∀ q : Nat, s.heap.size ≤ q → AS ad s.heap.size q := fun q h => Or.inr h
  have hAS : ∀ z : Nat, s.heap.size ≤ z → ∀ q : Nat, AS ad z q → AS ad s.heap.size q := fun z h q hq => hq.elim Or.inl (fun g => Or.inr (Nat.le_trans h g))
  generalize hAe : AS ad s.heap.size = A at hAd hA hAS ⊢
  have hS : va_S A s.heap s.heap [] := va_S.rf
  have hl := lv_entry ([.int a0, .int a1]) (n := 2) (Nat.le_of_ble_eq_true rfl)
  rw [lg_entry_eq]
  generalize (lg_sl ([.int a0, .int a1]) ++ List.replicate (2 - (lg_sl ([.int a0, .int a1])).length) Slot.unset).toArray = ls at hl ⊢
  have hl : lv_has ls 2 [(0, .int a0), (1, .int a1)] := hl
  have hf := (f_Board_bit_s a0 a1 S).symm
  generalize hQ : MQ below _ _ s _ _ _ = Q
  refine lv_lconst (v := 1) hx hb d_Board_bit_0 (by decide) ?_
  refine lv_iload_n hx hb d_Board_bit_1 rfl (lv_at hl 0 rfl) ?_
  refine lv_bipush (v := 8) hx hb d_Board_bit_2 (by decide) ?_
  refine lv_imul hx hb d_Board_bit_4 ?_
  refine lv_iload_n hx hb d_Board_bit_5 rfl (lv_at hl 1 rfl) ?_
  refine lv_iadd hx hb d_Board_bit_6 ?_
  refine lv_lshl hx hb d_Board_bit_7 rfl ?_
  rw [← hQ]
  exact W.lret (v := (1 : Int64) <<< (((a0 * (8 : Int32)) + a1).toInt64 &&& 63)) hx hb hr (fun t ht hW => ⟨⟨(1 : Int64) <<< (((a0 * (8 : Int32)) + a1).toInt64 &&& 63), (), rfl, hf.symm, by rw [ht]; exact hP, va_K.moved hW.alike hK⟩, hS.F ht⟩) hS.2.2 d_Board_bit_8
set_option maxHeartbeats 4000000 in
set_option maxRecDepth 100000 in
theorem c_Board_rowFromCuts (l : Launch) (D : va_G) (cA : Nat → ClassId) (ad : Nat → Nat) (hI : InjA ad) (sz : Nat) (a1 : Int32) (S : SS) (hs : f_Board_rowFromCuts a1 S ≠ none) : Met l y_Board_rowFromCuts w_Board_rowFromCuts ({ frames := 1, cells := 0, slots := 0, locals := 21 }) (va_Pc [.ref (ad 2), .int a1] (fun U => U.heap.size = sz ∧ va_P D vwCl (X cA ad S) U.heap ∧ va_K D vwCl (tysX cA) U)) (va_Ql (fun (r : Int64) (_ : Unit) => f_Board_rowFromCuts a1 S = some r) (fun (_ : Unit) t => va_P D vwCl (X cA ad S) t.heap ∧ va_K D vwCl (tysX cA) t) (AS ad sz)) 0 0 (AS ad sz) := by
  refine Met.ofW (cc := b_Board_rowFromCuts) (maxL := 5) (ret := (some .long)) (by decide) rfl ?_
  intro p e s m args below meth c s₁ B hml hv
  obtain ⟨rfl, hsz, hP, hK⟩ := hv
  have hx := B.exec
  have hb := B.bytes
  have hr := B.returns
  have hts := atoms_spec (ws := w_Board_rowFromCuts) B.pre
  have ht := fun w h => hts w (List.mem_cons_of_mem _ h)
  have hown : s.vm.findClass R_Board = some m.cls := findClass_of_methodNamed B.named
  have hlocks := B.notSynchronized
  subst hsz
  have hAd : ∀ q, q < NP → AS ad s.heap.size (ad q) := fun q h => Or.inl ⟨q, h, rfl⟩
  have hA : ∀ q : Nat, s.heap.size ≤ q → AS ad s.heap.size q := fun q h => Or.inr h
  have hAS : ∀ z : Nat, s.heap.size ≤ z → ∀ q : Nat, AS ad z q → AS ad s.heap.size q := fun z h q hq => hq.elim Or.inl (fun g => Or.inr (Nat.le_trans h g))
  generalize hAe : AS ad s.heap.size = A at hAd hA hAS ⊢
  have hS : va_S A s.heap s.heap [] := va_S.rf
  have hl := lv_entry ([.ref (ad 2), .int a1]) (n := 5) (Nat.le_of_ble_eq_true rfl)
  rw [lg_entry_eq]
  generalize (lg_sl ([.ref (ad 2), .int a1]) ++ List.replicate (5 - (lg_sl ([.ref (ad 2), .int a1])).length) Slot.unset).toArray = ls at hl ⊢
  have hl : lv_has ls 5 [(0, .ref (ad 2)), (1, .int a1)] := hl
  have hf := (f_Board_rowFromCuts_s a1 S).symm
  generalize hQ : MQ below _ _ s _ _ _ = Q
  refine lv_lconst (v := 0) hx hb d_Board_rowFromCuts_0 (by decide) ?_
  refine lv_lstore_n (lv' := [(2, .long (0 : Int64)), (0, .ref (ad 2)), (1, .int a1)]) hx hb d_Board_rowFromCuts_1 rfl hl (by decide) rfl (fun ls hl => ?_)
  refine lv_iconst (v := 0) hx hb d_Board_rowFromCuts_2 (by decide) ?_
  refine lv_istore (lv' := [(4, .int (0 : Int32)), (2, .long (0 : Int64)), (0, .ref (ad 2)), (1, .int a1)]) hx hb d_Board_rowFromCuts_3 hl (by decide) rfl (fun ls hl => ?_)
  have lp5_1 : ∀ (n : Nat) (y2_1 : Int64) (x4_1 : Int32) (H : Heap) (locs : List Loc) (ls : Array Slot), va_P D vwCl (X cA ad S) H → va_S A s.heap H locs → lv_has ls 5 [(0, .ref (ad 2)), (1, .int a1), (2, .long y2_1), (4, .int x4_1)] → f_Board_rowFromCuts_L5 a1 n y2_1 x4_1 S ≠ none →
      (∀ v : Int64, f_Board_rowFromCuts_L5 a1 n y2_1 x4_1 S = some v → ∀ (H : Heap) (locs : List Loc) (ls : Array Slot), va_P D vwCl (X cA ad S) H → va_S A s.heap H locs → lv_has ls 5 [(0, .ref (ad 2)), (1, .int a1), (2, .long v)] → W p l e (headSpec w_Board_rowFromCuts ({ frames := 1, cells := 0, slots := 0, locals := 21 })).room s m ([.ref (ad 2), .int a1] : List Value).toArray below meth c H locs 0 0 Q (F0 m 40 ls [])) →
      W p l e (headSpec w_Board_rowFromCuts ({ frames := 1, cells := 0, slots := 0, locals := 21 })).room s m ([.ref (ad 2), .int a1] : List Value).toArray below meth c H locs 0 0 Q (F0 m 5 ls []) := by
    intro n
    induction n with
    | zero => intro y2_1 x4_1 H locs ls hP hS hl hs; exact absurd rfl hs
    | succ n ih =>
      intro y2_1 x4_1 H locs ls hP hS hl hs hexit
      have hf := (f_Board_rowFromCuts_L5_s a1 n y2_1 x4_1 S).symm
      refine lv_iload hx hb d_Board_rowFromCuts_5 (lv_at hl 3 rfl) ?_
      refine lv_aload_n hx hb d_Board_rowFromCuts_7 rfl (lv_at hl 0 rfl) ?_
      refine va_get (D := D) (ci := 2) (v := .ref (ad 1)) (C := R_Board) (T := T_Board) (N := 7) hx hb ht i_Board hown hK hP 2 Xa_2 rfl 0 (by decide) (ht _ mF_Board_29) (fun _ h9 => h9) rfl d_Board_rowFromCuts_8 ?_
      refine va_get (D := D) (ci := 1) (v := .int (S.1 1 0)) (C := R_Law) (T := T_Law) (N := 5) hx hb ht i_Law hown hK hP 1 Xa_1 rfl 0 (by decide) (ht _ mF_Board_79) (fun _ h9 => h9) rfl d_Board_rowFromCuts_11 ?_
      refine lv_icmp_ge (tgt := 40) hx hb d_Board_rowFromCuts_14 (by decide) (fun c1 => ?_) (fun c1 => ?_)
      · rw [if_pos c1] at hf
        exact hexit _ hf.symm _ _ _ hP hS (lv_sub hl [0, 1, 2] rfl)
      · rw [if_neg c1] at hf
        refine lv_lload_n hx hb d_Board_rowFromCuts_17 rfl (lv_at hl 2 rfl) ?_
        refine lv_iload hx hb d_Board_rowFromCuts_18 (lv_at hl 3 rfl) ?_
        refine lv_aload_n hx hb d_Board_rowFromCuts_20 rfl (lv_at hl 0 rfl) ?_
        refine va_get (D := D) (ci := 2) (v := .ref (ad 6)) (C := R_Board) (T := T_Board) (N := 7) hx hb ht i_Board hown hK hP 2 Xa_2 rfl 4 (by decide) (ht _ mF_Board_17) (fun _ h9 => h9) rfl d_Board_rowFromCuts_21 ?_
        refine lv_iload_n hx hb d_Board_rowFromCuts_24 rfl (lv_at hl 1 rfl) ?_
        by_cases b2 : oob a1 8
        · rw [if_pos b2] at hf; exact absurd hf.symm hs
        rw [if_neg b2] at hf
        refine gz_aald hx hb hK hP 6 2 Xa_6 rfl b2 d_Board_rowFromCuts_25 ?_
        rw [X_row b2]
        refine lv_iload hx hb d_Board_rowFromCuts_26 (lv_at hl 3 rfl) ?_
        by_cases b3 : oob x4_1 6
        · rw [if_pos b3] at hf; exact absurd hf.symm hs
        rw [if_neg b3] at hf
        refine va_iald (f := S.1 (10 + a1.toNatClampNeg)) hx hb hK hP (10 + a1.toNatClampNeg) 0 (X_rowat6 b2) rfl b3 d_Board_rowFromCuts_28 ?_
        refine va_calll (va_runS (As := [.int x4_1, .int (S.1 (10 + a1.toNatClampNeg) x4_1.toNatClampNeg)]) (rest := [.long y2_1]) ⟨hx, hb, hml, hown, ht⟩ (c_Board_bit l D cA ad hI H.size x4_1 (S.1 (10 + a1.toNatClampNeg) x4_1.toNatClampNeg) S (fun hn => hs (by rw [hn] at hf; exact hf.symm))) (va_cwS 2 ht (good_G (gS mM_Board_37 mS_Board_bit mN_Board mk_Board_bit)) rfl rfl rfl (by decide +kernel) ⟨Nat.le_of_ble_eq_true rfl, Nat.le_of_ble_eq_true rfl⟩) ⟨fun a U g mk q => ⟨q.1, q.2.1, q.2.2.1, va_K.moved (u := U) (U := U.calling g mk a) (Vm.Alike.refl U.vm) q.2.2.2⟩, fun U hU hW => ⟨rfl, by rw [hU], by rw [hU]; exact hP, va_K.moved hW.alike hK⟩⟩ rfl rfl hl.1 rfl (lv_room (Nat.le_of_ble_eq_true rfl)) d_Board_rowFromCuts_29 ⟨Nat.le_of_ble_eq_true rfl, Nat.le_of_ble_eq_true rfl⟩) hS (fun q _ h => hAS _ hS.1 q h) (fun q h => hAS _ hS.1 q h) (fun r1 _ t H locs ht9 hvm hw hB hz1 hk1 hS => ?_)
        obtain ⟨hP, hK9⟩ := hB
        rw [ht9] at hP
        rw [hw, Option.bind_some] at hf
        refine lv_lor hx hb d_Board_rowFromCuts_32 ?_
        refine lv_lstore_n (lv' := [(2, .long (y2_1 ||| r1)), (0, .ref (ad 2)), (1, .int a1), (4, .int x4_1)]) hx hb d_Board_rowFromCuts_33 rfl hl (by decide) rfl (fun ls hl => ?_)
        refine lv_iinc (v := x4_1 + 1) (lv' := [(4, .int (x4_1 + 1)), (2, .long (y2_1 ||| r1)), (0, .ref (ad 2)), (1, .int a1)]) hx hb d_Board_rowFromCuts_34 hl (k := 3) rfl rfl (by decide) rfl (fun ls hl => ?_)
        refine lv_goto (tgt := 5) hx hb d_Board_rowFromCuts_37 (by decide) ?_
        exact ih (y2_1 ||| r1) (x4_1 + 1) _ _ _ hP hS (lv_sub hl [2, 3, 1, 0] rfl) (fun hn => hs (hf.symm.trans hn)) (fun v ho => hexit v (hf.symm.trans ho))
  refine lp5_1 FU (0 : Int64) (0 : Int32) _ _ _ hP hS (lv_sub hl [2, 3, 1, 0] rfl) (fun hn => ?_) (fun v4 hvv4 H locs ls hP hS hl => ?_)
  · rw [hn] at hf; exact hs hf.symm
  · rw [hvv4, Option.bind_some] at hf
    refine lv_lload_n hx hb d_Board_rowFromCuts_40 rfl (lv_at hl 2 rfl) ?_
    rw [← hQ]
    exact W.lret (v := v4) hx hb hr (fun t ht hW => ⟨⟨v4, (), rfl, hf.symm, by rw [ht]; exact hP, va_K.moved hW.alike hK⟩, hS.F ht⟩) hS.2.2 d_Board_rowFromCuts_41
set_option maxHeartbeats 4000000 in
set_option maxRecDepth 100000 in
theorem c_Board_isTaken (l : Launch) (D : va_G) (cA : Nat → ClassId) (ad : Nat → Nat) (hI : InjA ad) (sz : Nat) (a1 : Int64) (a3 : Int32) (S : SS) (hs : f_Board_isTaken a1 a3 S ≠ none) : Met l y_Board_isTaken w_Board_isTaken ({ frames := 0, cells := 0, slots := 0, locals := 0 }) (va_Pc [.ref (ad 2), .long a1, .int a3] (fun U => U.heap.size = sz ∧ va_P D vwCl (X cA ad S) U.heap ∧ va_K D vwCl (tysX cA) U)) (va_Qi (fun (r : Int32) (_ : Unit) => f_Board_isTaken a1 a3 S = some r ∧ (r = 0 ∨ r = 1)) (fun (_ : Unit) t => va_P D vwCl (X cA ad S) t.heap ∧ va_K D vwCl (tysX cA) t) (AS ad sz)) 0 0 (AS ad sz) := by
  refine Met.ofW (cc := b_Board_isTaken) (maxL := 5) (ret := (some .boolean)) (by decide) rfl ?_
  intro p e s m args below meth c s₁ B hml hv
  obtain ⟨rfl, hsz, hP, hK⟩ := hv
  have hx := B.exec
  have hb := B.bytes
  have hr := B.returns
  have hts := atoms_spec (ws := w_Board_isTaken) B.pre
  have ht := fun w h => hts w (List.mem_cons_of_mem _ h)
  have hown : s.vm.findClass R_Board = some m.cls := findClass_of_methodNamed B.named
  have hlocks := B.notSynchronized
  subst hsz
  have hAd : ∀ q, q < NP → AS ad s.heap.size (ad q) := fun q h => Or.inl ⟨q, h, rfl⟩
  have hA : ∀ q : Nat, s.heap.size ≤ q → AS ad s.heap.size q := fun q h => Or.inr h
  have hAS : ∀ z : Nat, s.heap.size ≤ z → ∀ q : Nat, AS ad z q → AS ad s.heap.size q := fun z h q hq => hq.elim Or.inl (fun g => Or.inr (Nat.le_trans h g))
  generalize hAe : AS ad s.heap.size = A at hAd hA hAS ⊢
  have hS : va_S A s.heap s.heap [] := va_S.rf
  have hl := lv_entry ([.ref (ad 2), .long a1, .int a3]) (n := 5) (Nat.le_of_ble_eq_true rfl)
  rw [lg_entry_eq]
  generalize (lg_sl ([.ref (ad 2), .long a1, .int a3]) ++ List.replicate (5 - (lg_sl ([.ref (ad 2), .long a1, .int a3])).length) Slot.unset).toArray = ls at hl ⊢
  have hl : lv_has ls 5 [(0, .ref (ad 2)), (1, .long a1), (3, .int a3)] := hl
  have hf := (f_Board_isTaken_s a1 a3 S).symm
  generalize hQ : MQ below _ _ s _ _ _ = Q
  refine lv_iconst (v := 0) hx hb d_Board_isTaken_0 (by decide) ?_
  refine lv_istore (lv' := [(4, .int (0 : Int32)), (0, .ref (ad 2)), (1, .long a1), (3, .int a3)]) hx hb d_Board_isTaken_1 hl (by decide) rfl (fun ls hl => ?_)
  have lp3_1 : ∀ (n : Nat) (x4_1 : Int32) (H : Heap) (locs : List Loc) (ls : Array Slot), va_P D vwCl (X cA ad S) H → va_S A s.heap H locs → lv_has ls 5 [(0, .ref (ad 2)), (1, .long a1), (3, .int a3), (4, .int x4_1)] → f_Board_isTaken_L3 a1 a3 n x4_1 S ≠ none →
      (∀ o : Int32, f_Board_isTaken_L3 a1 a3 n x4_1 S = some (.inl o) → f_Board_isTaken a1 a3 S = some o) →
      (∀ v : Unit, f_Board_isTaken_L3 a1 a3 n x4_1 S = some (.inr v) → ∀ (H : Heap) (locs : List Loc) (ls : Array Slot), va_P D vwCl (X cA ad S) H → va_S A s.heap H locs → lv_has ls 5 [(0, .ref (ad 2)), (1, .long a1), (3, .int a3)] → W p l e (headSpec w_Board_isTaken ({ frames := 0, cells := 0, slots := 0, locals := 0 })).room s m ([.ref (ad 2), .long a1, .int a3] : List Value).toArray below meth c H locs 0 0 Q (F0 m 29 ls [])) →
      W p l e (headSpec w_Board_isTaken ({ frames := 0, cells := 0, slots := 0, locals := 0 })).room s m ([.ref (ad 2), .long a1, .int a3] : List Value).toArray below meth c H locs 0 0 Q (F0 m 3 ls []) := by
    intro n
    induction n with
    | zero => intro x4_1 H locs ls hP hS hl hs; exact absurd rfl hs
    | succ n ih =>
      intro x4_1 H locs ls hP hS hl hs hret hexit
      have hf := (f_Board_isTaken_L3_s a1 a3 n x4_1 S).symm
      refine lv_iload hx hb d_Board_isTaken_3 (lv_at hl 3 rfl) ?_
      refine lv_iload_n hx hb d_Board_isTaken_5 rfl (lv_at hl 2 rfl) ?_
      refine lv_icmp_ge (tgt := 29) hx hb d_Board_isTaken_6 (by decide) (fun c1 => ?_) (fun c1 => ?_)
      · rw [if_pos c1] at hf
        exact hexit _ hf.symm _ _ _ hP hS (lv_sub hl [0, 1, 2] rfl)
      · rw [if_neg c1] at hf
        refine lv_aload_n hx hb d_Board_isTaken_9 rfl (lv_at hl 0 rfl) ?_
        refine va_get (D := D) (ci := 2) (v := .ref (ad 7)) (C := R_Board) (T := T_Board) (N := 7) hx hb ht i_Board hown hK hP 2 Xa_2 rfl 5 (by decide) (ht _ mF_Board_20) (fun _ h9 => h9) rfl d_Board_isTaken_10 ?_
        refine lv_iload hx hb d_Board_isTaken_13 (lv_at hl 3 rfl) ?_
        by_cases b2 : oob x4_1 8
        · rw [if_pos b2] at hf; exact absurd hf.symm hs
        rw [if_neg b2] at hf
        refine va_lald (f := S.2 7) hx hb hK hP 7 1 Xa_7 rfl b2 d_Board_isTaken_15 ?_
        refine lv_lload_n hx hb d_Board_isTaken_16 rfl (lv_at hl 1 rfl) ?_
        refine W.lcmp hx hb d_Board_isTaken_17 ?_
        refine lv_if_ne (tgt := 23) hx hb d_Board_isTaken_18 (by decide) (fun c3 => ?_) (fun c3 => ?_)
        · rw [if_neg c3] at hf
          refine lv_iinc (v := x4_1 + 1) (lv' := [(4, .int (x4_1 + 1)), (0, .ref (ad 2)), (1, .long a1), (3, .int a3)]) hx hb d_Board_isTaken_23 hl (k := 3) rfl rfl (by decide) rfl (fun ls hl => ?_)
          refine lv_goto (tgt := 3) hx hb d_Board_isTaken_26 (by decide) ?_
          exact ih (x4_1 + 1) _ _ _ hP hS (lv_sub hl [1, 2, 3, 0] rfl) (fun hn => hs (hf.symm.trans hn)) (fun o ho => hret o (hf.symm.trans ho)) (fun v ho => hexit v (hf.symm.trans ho))
        · rw [if_pos c3] at hf
          refine lv_iconst (v := 1) hx hb d_Board_isTaken_21 (by decide) ?_
          rw [← hQ]
          have hz : (1 : Int32) = 0 ∨ (1 : Int32) = 1 := Or.inr rfl
          exact W.zret (v := (1 : Int32)) hx hb hr (zb_n hz) (fun t ht hW => ⟨⟨(1 : Int32), (), rfl, ⟨hret _ hf.symm, hz⟩, by rw [ht]; exact hP, va_K.moved hW.alike hK⟩, hS.F ht⟩) hS.2.2 d_Board_isTaken_22
  refine lp3_1 FU (0 : Int32) _ _ _ hP hS (lv_sub hl [1, 2, 3, 0] rfl) (fun hn => ?_) (fun o ho => ?_) (fun v4 hvv4 H locs ls hP hS hl => ?_)
  · rw [hn] at hf; exact hs hf.symm
  · rw [ho, Option.bind_some, Sum.elim_inl] at hf; exact hf.symm
  · rw [hvv4, Option.bind_some, Sum.elim_inr] at hf
    refine lv_iconst (v := 0) hx hb d_Board_isTaken_29 (by decide) ?_
    rw [← hQ]
    have hz : (0 : Int32) = 0 ∨ (0 : Int32) = 1 := Or.inl rfl
    exact W.zret (v := (0 : Int32)) hx hb hr (zb_n hz) (fun t ht hW => ⟨⟨(0 : Int32), (), rfl, ⟨hf.symm, hz⟩, by rw [ht]; exact hP, va_K.moved hW.alike hK⟩, hS.F ht⟩) hS.2.2 d_Board_isTaken_30
set_option maxHeartbeats 4000000 in
set_option maxRecDepth 100000 in
theorem c_JL_bitCount (l : Launch) (D : va_G) (cA : Nat → ClassId) (ad : Nat → Nat) (hI : InjA ad) (sz : Nat) (a0 : Int64) (S : SS) (hs : f_JL_bitCount a0 S ≠ none) : Met l y_JL_bitCount w_JL_bitCount ({ frames := 0, cells := 0, slots := 0, locals := 0 }) (va_Pc [.long a0] (fun U => U.heap.size = sz ∧ va_P D vwCl (X cA ad S) U.heap ∧ va_K D vwCl (tysX cA) U)) (va_Qi (fun (r : Int32) (_ : Unit) => f_JL_bitCount a0 S = some r) (fun (_ : Unit) t => va_P D vwCl (X cA ad S) t.heap ∧ va_K D vwCl (tysX cA) t) (AS ad sz)) 0 0 (AS ad sz) := by
  refine Met.ofW (cc := b_JL_bitCount) (maxL := 2) (ret := (some .int)) (by decide) rfl ?_
  intro p e s m args below meth c s₁ B hml hv
  obtain ⟨rfl, hsz, hP, hK⟩ := hv
  have hx := B.exec
  have hb := B.bytes
  have hr := B.returns
  have hts := atoms_spec (ws := w_JL_bitCount) B.pre
  have ht := fun w h => hts w (List.mem_cons_of_mem _ h)
  have hown : s.vm.findClass R_JL = some m.cls := findClass_of_methodNamed B.named
  have hlocks := B.notSynchronized
  subst hsz
  have hAd : ∀ q, q < NP → AS ad s.heap.size (ad q) := fun q h => Or.inl ⟨q, h, rfl⟩
  have hA : ∀ q : Nat, s.heap.size ≤ q → AS ad s.heap.size q := fun q h => Or.inr h
  have hAS : ∀ z : Nat, s.heap.size ≤ z → ∀ q : Nat, AS ad z q → AS ad s.heap.size q := fun z h q hq => hq.elim Or.inl (fun g => Or.inr (Nat.le_trans h g))
  generalize hAe : AS ad s.heap.size = A at hAd hA hAS ⊢
  have hS : va_S A s.heap s.heap [] := va_S.rf
  have hl := lv_entry ([.long a0]) (n := 2) (Nat.le_of_ble_eq_true rfl)
  rw [lg_entry_eq]
  generalize (lg_sl ([.long a0]) ++ List.replicate (2 - (lg_sl ([.long a0])).length) Slot.unset).toArray = ls at hl ⊢
  have hl : lv_has ls 2 [(0, .long a0)] := hl
  have hf := (f_JL_bitCount_s a0 S).symm
  generalize hQ : MQ below _ _ s _ _ _ = Q
  refine lv_lload_n hx hb d_JL_bitCount_0 rfl (lv_at hl 0 rfl) ?_
  refine lv_lload_n hx hb d_JL_bitCount_1 rfl (lv_at hl 0 rfl) ?_
  refine lv_iconst (v := 1) hx hb d_JL_bitCount_2 (by decide) ?_
  refine lv_lushr hx hb d_JL_bitCount_3 rfl ?_
  refine lv_ldc2 (v := 6148914691236517205) hx hb hown (ht _ mC_JL_314) d_JL_bitCount_4 ?_
  refine lv_land hx hb d_JL_bitCount_7 ?_
  refine lv_lsub hx hb d_JL_bitCount_8 ?_
  refine lv_lstore_n (lv' := [(0, .long (a0 - (((a0.toUInt64 >>> ((1 : Int32).toInt64.toUInt64 &&& Int64.toUInt64 63)).toInt64) &&& (6148914691236517205 : Int64))))]) hx hb d_JL_bitCount_9 rfl hl (by decide) rfl (fun ls hl => ?_)
  refine lv_lload_n hx hb d_JL_bitCount_10 rfl (lv_at hl 0 rfl) ?_
  refine lv_ldc2 (v := 3689348814741910323) hx hb hown (ht _ mC_JL_316) d_JL_bitCount_11 ?_
  refine lv_land hx hb d_JL_bitCount_14 ?_
  refine lv_lload_n hx hb d_JL_bitCount_15 rfl (lv_at hl 0 rfl) ?_
  refine lv_iconst (v := 2) hx hb d_JL_bitCount_16 (by decide) ?_
  refine lv_lushr hx hb d_JL_bitCount_17 rfl ?_
  refine lv_ldc2 (v := 3689348814741910323) hx hb hown (ht _ mC_JL_316) d_JL_bitCount_18 ?_
  refine lv_land hx hb d_JL_bitCount_21 ?_
  refine lv_ladd hx hb d_JL_bitCount_22 ?_
  refine lv_lstore_n (lv' := [(0, .long (((a0 - (((a0.toUInt64 >>> ((1 : Int32).toInt64.toUInt64 &&& Int64.toUInt64 63)).toInt64) &&& (6148914691236517205 : Int64))) &&& (3689348814741910323 : Int64)) + ((((a0 - (((a0.toUInt64 >>> ((1 : Int32).toInt64.toUInt64 &&& Int64.toUInt64 63)).toInt64) &&& (6148914691236517205 : Int64))).toUInt64 >>> ((2 : Int32).toInt64.toUInt64 &&& Int64.toUInt64 63)).toInt64) &&& (3689348814741910323 : Int64))))]) hx hb d_JL_bitCount_23 rfl hl (by decide) rfl (fun ls hl => ?_)
  refine lv_lload_n hx hb d_JL_bitCount_24 rfl (lv_at hl 0 rfl) ?_
  refine lv_lload_n hx hb d_JL_bitCount_25 rfl (lv_at hl 0 rfl) ?_
  refine lv_iconst (v := 4) hx hb d_JL_bitCount_26 (by decide) ?_
  refine lv_lushr hx hb d_JL_bitCount_27 rfl ?_
  refine lv_ladd hx hb d_JL_bitCount_28 ?_
  refine lv_ldc2 (v := 1085102592571150095) hx hb hown (ht _ mC_JL_318) d_JL_bitCount_29 ?_
  refine lv_land hx hb d_JL_bitCount_32 ?_
  refine lv_lstore_n (lv' := [(0, .long (((((a0 - (((a0.toUInt64 >>> ((1 : Int32).toInt64.toUInt64 &&& Int64.toUInt64 63)).toInt64) &&& (6148914691236517205 : Int64))) &&& (3689348814741910323 : Int64)) + ((((a0 - (((a0.toUInt64 >>> ((1 : Int32).toInt64.toUInt64 &&& Int64.toUInt64 63)).toInt64) &&& (6148914691236517205 : Int64))).toUInt64 >>> ((2 : Int32).toInt64.toUInt64 &&& Int64.toUInt64 63)).toInt64) &&& (3689348814741910323 : Int64))) + (((((a0 - (((a0.toUInt64 >>> ((1 : Int32).toInt64.toUInt64 &&& Int64.toUInt64 63)).toInt64) &&& (6148914691236517205 : Int64))) &&& (3689348814741910323 : Int64)) + ((((a0 - (((a0.toUInt64 >>> ((1 : Int32).toInt64.toUInt64 &&& Int64.toUInt64 63)).toInt64) &&& (6148914691236517205 : Int64))).toUInt64 >>> ((2 : Int32).toInt64.toUInt64 &&& Int64.toUInt64 63)).toInt64) &&& (3689348814741910323 : Int64))).toUInt64 >>> ((4 : Int32).toInt64.toUInt64 &&& Int64.toUInt64 63)).toInt64)) &&& (1085102592571150095 : Int64)))]) hx hb d_JL_bitCount_33 rfl hl (by decide) rfl (fun ls hl => ?_)
  refine lv_lload_n hx hb d_JL_bitCount_34 rfl (lv_at hl 0 rfl) ?_
  refine lv_lload_n hx hb d_JL_bitCount_35 rfl (lv_at hl 0 rfl) ?_
  refine lv_bipush (v := 8) hx hb d_JL_bitCount_36 (by decide) ?_
  refine lv_lushr hx hb d_JL_bitCount_38 rfl ?_
  refine lv_ladd hx hb d_JL_bitCount_39 ?_
  refine lv_lstore_n (lv' := [(0, .long ((((((a0 - (((a0.toUInt64 >>> ((1 : Int32).toInt64.toUInt64 &&& Int64.toUInt64 63)).toInt64) &&& (6148914691236517205 : Int64))) &&& (3689348814741910323 : Int64)) + ((((a0 - (((a0.toUInt64 >>> ((1 : Int32).toInt64.toUInt64 &&& Int64.toUInt64 63)).toInt64) &&& (6148914691236517205 : Int64))).toUInt64 >>> ((2 : Int32).toInt64.toUInt64 &&& Int64.toUInt64 63)).toInt64) &&& (3689348814741910323 : Int64))) + (((((a0 - (((a0.toUInt64 >>> ((1 : Int32).toInt64.toUInt64 &&& Int64.toUInt64 63)).toInt64) &&& (6148914691236517205 : Int64))) &&& (3689348814741910323 : Int64)) + ((((a0 - (((a0.toUInt64 >>> ((1 : Int32).toInt64.toUInt64 &&& Int64.toUInt64 63)).toInt64) &&& (6148914691236517205 : Int64))).toUInt64 >>> ((2 : Int32).toInt64.toUInt64 &&& Int64.toUInt64 63)).toInt64) &&& (3689348814741910323 : Int64))).toUInt64 >>> ((4 : Int32).toInt64.toUInt64 &&& Int64.toUInt64 63)).toInt64)) &&& (1085102592571150095 : Int64)) + (((((((a0 - (((a0.toUInt64 >>> ((1 : Int32).toInt64.toUInt64 &&& Int64.toUInt64 63)).toInt64) &&& (6148914691236517205 : Int64))) &&& (3689348814741910323 : Int64)) + ((((a0 - (((a0.toUInt64 >>> ((1 : Int32).toInt64.toUInt64 &&& Int64.toUInt64 63)).toInt64) &&& (6148914691236517205 : Int64))).toUInt64 >>> ((2 : Int32).toInt64.toUInt64 &&& Int64.toUInt64 63)).toInt64) &&& (3689348814741910323 : Int64))) + (((((a0 - (((a0.toUInt64 >>> ((1 : Int32).toInt64.toUInt64 &&& Int64.toUInt64 63)).toInt64) &&& (6148914691236517205 : Int64))) &&& (3689348814741910323 : Int64)) + ((((a0 - (((a0.toUInt64 >>> ((1 : Int32).toInt64.toUInt64 &&& Int64.toUInt64 63)).toInt64) &&& (6148914691236517205 : Int64))).toUInt64 >>> ((2 : Int32).toInt64.toUInt64 &&& Int64.toUInt64 63)).toInt64) &&& (3689348814741910323 : Int64))).toUInt64 >>> ((4 : Int32).toInt64.toUInt64 &&& Int64.toUInt64 63)).toInt64)) &&& (1085102592571150095 : Int64)).toUInt64 >>> ((8 : Int32).toInt64.toUInt64 &&& Int64.toUInt64 63)).toInt64)))]) hx hb d_JL_bitCount_40 rfl hl (by decide) rfl (fun ls hl => ?_)
  refine lv_lload_n hx hb d_JL_bitCount_41 rfl (lv_at hl 0 rfl) ?_
  refine lv_lload_n hx hb d_JL_bitCount_42 rfl (lv_at hl 0 rfl) ?_
  refine lv_bipush (v := 16) hx hb d_JL_bitCount_43 (by decide) ?_
  refine lv_lushr hx hb d_JL_bitCount_45 rfl ?_
  refine lv_ladd hx hb d_JL_bitCount_46 ?_
  refine lv_lstore_n (lv' := [(0, .long (((((((a0 - (((a0.toUInt64 >>> ((1 : Int32).toInt64.toUInt64 &&& Int64.toUInt64 63)).toInt64) &&& (6148914691236517205 : Int64))) &&& (3689348814741910323 : Int64)) + ((((a0 - (((a0.toUInt64 >>> ((1 : Int32).toInt64.toUInt64 &&& Int64.toUInt64 63)).toInt64) &&& (6148914691236517205 : Int64))).toUInt64 >>> ((2 : Int32).toInt64.toUInt64 &&& Int64.toUInt64 63)).toInt64) &&& (3689348814741910323 : Int64))) + (((((a0 - (((a0.toUInt64 >>> ((1 : Int32).toInt64.toUInt64 &&& Int64.toUInt64 63)).toInt64) &&& (6148914691236517205 : Int64))) &&& (3689348814741910323 : Int64)) + ((((a0 - (((a0.toUInt64 >>> ((1 : Int32).toInt64.toUInt64 &&& Int64.toUInt64 63)).toInt64) &&& (6148914691236517205 : Int64))).toUInt64 >>> ((2 : Int32).toInt64.toUInt64 &&& Int64.toUInt64 63)).toInt64) &&& (3689348814741910323 : Int64))).toUInt64 >>> ((4 : Int32).toInt64.toUInt64 &&& Int64.toUInt64 63)).toInt64)) &&& (1085102592571150095 : Int64)) + (((((((a0 - (((a0.toUInt64 >>> ((1 : Int32).toInt64.toUInt64 &&& Int64.toUInt64 63)).toInt64) &&& (6148914691236517205 : Int64))) &&& (3689348814741910323 : Int64)) + ((((a0 - (((a0.toUInt64 >>> ((1 : Int32).toInt64.toUInt64 &&& Int64.toUInt64 63)).toInt64) &&& (6148914691236517205 : Int64))).toUInt64 >>> ((2 : Int32).toInt64.toUInt64 &&& Int64.toUInt64 63)).toInt64) &&& (3689348814741910323 : Int64))) + (((((a0 - (((a0.toUInt64 >>> ((1 : Int32).toInt64.toUInt64 &&& Int64.toUInt64 63)).toInt64) &&& (6148914691236517205 : Int64))) &&& (3689348814741910323 : Int64)) + ((((a0 - (((a0.toUInt64 >>> ((1 : Int32).toInt64.toUInt64 &&& Int64.toUInt64 63)).toInt64) &&& (6148914691236517205 : Int64))).toUInt64 >>> ((2 : Int32).toInt64.toUInt64 &&& Int64.toUInt64 63)).toInt64) &&& (3689348814741910323 : Int64))).toUInt64 >>> ((4 : Int32).toInt64.toUInt64 &&& Int64.toUInt64 63)).toInt64)) &&& (1085102592571150095 : Int64)).toUInt64 >>> ((8 : Int32).toInt64.toUInt64 &&& Int64.toUInt64 63)).toInt64)) + ((((((((a0 - (((a0.toUInt64 >>> ((1 : Int32).toInt64.toUInt64 &&& Int64.toUInt64 63)).toInt64) &&& (6148914691236517205 : Int64))) &&& (3689348814741910323 : Int64)) + ((((a0 - (((a0.toUInt64 >>> ((1 : Int32).toInt64.toUInt64 &&& Int64.toUInt64 63)).toInt64) &&& (6148914691236517205 : Int64))).toUInt64 >>> ((2 : Int32).toInt64.toUInt64 &&& Int64.toUInt64 63)).toInt64) &&& (3689348814741910323 : Int64))) + (((((a0 - (((a0.toUInt64 >>> ((1 : Int32).toInt64.toUInt64 &&& Int64.toUInt64 63)).toInt64) &&& (6148914691236517205 : Int64))) &&& (3689348814741910323 : Int64)) + ((((a0 - (((a0.toUInt64 >>> ((1 : Int32).toInt64.toUInt64 &&& Int64.toUInt64 63)).toInt64) &&& (6148914691236517205 : Int64))).toUInt64 >>> ((2 : Int32).toInt64.toUInt64 &&& Int64.toUInt64 63)).toInt64) &&& (3689348814741910323 : Int64))).toUInt64 >>> ((4 : Int32).toInt64.toUInt64 &&& Int64.toUInt64 63)).toInt64)) &&& (1085102592571150095 : Int64)) + (((((((a0 - (((a0.toUInt64 >>> ((1 : Int32).toInt64.toUInt64 &&& Int64.toUInt64 63)).toInt64) &&& (6148914691236517205 : Int64))) &&& (3689348814741910323 : Int64)) + ((((a0 - (((a0.toUInt64 >>> ((1 : Int32).toInt64.toUInt64 &&& Int64.toUInt64 63)).toInt64) &&& (6148914691236517205 : Int64))).toUInt64 >>> ((2 : Int32).toInt64.toUInt64 &&& Int64.toUInt64 63)).toInt64) &&& (3689348814741910323 : Int64))) + (((((a0 - (((a0.toUInt64 >>> ((1 : Int32).toInt64.toUInt64 &&& Int64.toUInt64 63)).toInt64) &&& (6148914691236517205 : Int64))) &&& (3689348814741910323 : Int64)) + ((((a0 - (((a0.toUInt64 >>> ((1 : Int32).toInt64.toUInt64 &&& Int64.toUInt64 63)).toInt64) &&& (6148914691236517205 : Int64))).toUInt64 >>> ((2 : Int32).toInt64.toUInt64 &&& Int64.toUInt64 63)).toInt64) &&& (3689348814741910323 : Int64))).toUInt64 >>> ((4 : Int32).toInt64.toUInt64 &&& Int64.toUInt64 63)).toInt64)) &&& (1085102592571150095 : Int64)).toUInt64 >>> ((8 : Int32).toInt64.toUInt64 &&& Int64.toUInt64 63)).toInt64)).toUInt64 >>> ((16 : Int32).toInt64.toUInt64 &&& Int64.toUInt64 63)).toInt64)))]) hx hb d_JL_bitCount_47 rfl hl (by decide) rfl (fun ls hl => ?_)
  refine lv_lload_n hx hb d_JL_bitCount_48 rfl (lv_at hl 0 rfl) ?_
  refine lv_lload_n hx hb d_JL_bitCount_49 rfl (lv_at hl 0 rfl) ?_
  refine lv_bipush (v := 32) hx hb d_JL_bitCount_50 (by decide) ?_
  refine lv_lushr hx hb d_JL_bitCount_52 rfl ?_
  refine lv_ladd hx hb d_JL_bitCount_53 ?_
  refine lv_lstore_n (lv' := [(0, .long ((((((((a0 - (((a0.toUInt64 >>> ((1 : Int32).toInt64.toUInt64 &&& Int64.toUInt64 63)).toInt64) &&& (6148914691236517205 : Int64))) &&& (3689348814741910323 : Int64)) + ((((a0 - (((a0.toUInt64 >>> ((1 : Int32).toInt64.toUInt64 &&& Int64.toUInt64 63)).toInt64) &&& (6148914691236517205 : Int64))).toUInt64 >>> ((2 : Int32).toInt64.toUInt64 &&& Int64.toUInt64 63)).toInt64) &&& (3689348814741910323 : Int64))) + (((((a0 - (((a0.toUInt64 >>> ((1 : Int32).toInt64.toUInt64 &&& Int64.toUInt64 63)).toInt64) &&& (6148914691236517205 : Int64))) &&& (3689348814741910323 : Int64)) + ((((a0 - (((a0.toUInt64 >>> ((1 : Int32).toInt64.toUInt64 &&& Int64.toUInt64 63)).toInt64) &&& (6148914691236517205 : Int64))).toUInt64 >>> ((2 : Int32).toInt64.toUInt64 &&& Int64.toUInt64 63)).toInt64) &&& (3689348814741910323 : Int64))).toUInt64 >>> ((4 : Int32).toInt64.toUInt64 &&& Int64.toUInt64 63)).toInt64)) &&& (1085102592571150095 : Int64)) + (((((((a0 - (((a0.toUInt64 >>> ((1 : Int32).toInt64.toUInt64 &&& Int64.toUInt64 63)).toInt64) &&& (6148914691236517205 : Int64))) &&& (3689348814741910323 : Int64)) + ((((a0 - (((a0.toUInt64 >>> ((1 : Int32).toInt64.toUInt64 &&& Int64.toUInt64 63)).toInt64) &&& (6148914691236517205 : Int64))).toUInt64 >>> ((2 : Int32).toInt64.toUInt64 &&& Int64.toUInt64 63)).toInt64) &&& (3689348814741910323 : Int64))) + (((((a0 - (((a0.toUInt64 >>> ((1 : Int32).toInt64.toUInt64 &&& Int64.toUInt64 63)).toInt64) &&& (6148914691236517205 : Int64))) &&& (3689348814741910323 : Int64)) + ((((a0 - (((a0.toUInt64 >>> ((1 : Int32).toInt64.toUInt64 &&& Int64.toUInt64 63)).toInt64) &&& (6148914691236517205 : Int64))).toUInt64 >>> ((2 : Int32).toInt64.toUInt64 &&& Int64.toUInt64 63)).toInt64) &&& (3689348814741910323 : Int64))).toUInt64 >>> ((4 : Int32).toInt64.toUInt64 &&& Int64.toUInt64 63)).toInt64)) &&& (1085102592571150095 : Int64)).toUInt64 >>> ((8 : Int32).toInt64.toUInt64 &&& Int64.toUInt64 63)).toInt64)) + ((((((((a0 - (((a0.toUInt64 >>> ((1 : Int32).toInt64.toUInt64 &&& Int64.toUInt64 63)).toInt64) &&& (6148914691236517205 : Int64))) &&& (3689348814741910323 : Int64)) + ((((a0 - (((a0.toUInt64 >>> ((1 : Int32).toInt64.toUInt64 &&& Int64.toUInt64 63)).toInt64) &&& (6148914691236517205 : Int64))).toUInt64 >>> ((2 : Int32).toInt64.toUInt64 &&& Int64.toUInt64 63)).toInt64) &&& (3689348814741910323 : Int64))) + (((((a0 - (((a0.toUInt64 >>> ((1 : Int32).toInt64.toUInt64 &&& Int64.toUInt64 63)).toInt64) &&& (6148914691236517205 : Int64))) &&& (3689348814741910323 : Int64)) + ((((a0 - (((a0.toUInt64 >>> ((1 : Int32).toInt64.toUInt64 &&& Int64.toUInt64 63)).toInt64) &&& (6148914691236517205 : Int64))).toUInt64 >>> ((2 : Int32).toInt64.toUInt64 &&& Int64.toUInt64 63)).toInt64) &&& (3689348814741910323 : Int64))).toUInt64 >>> ((4 : Int32).toInt64.toUInt64 &&& Int64.toUInt64 63)).toInt64)) &&& (1085102592571150095 : Int64)) + (((((((a0 - (((a0.toUInt64 >>> ((1 : Int32).toInt64.toUInt64 &&& Int64.toUInt64 63)).toInt64) &&& (6148914691236517205 : Int64))) &&& (3689348814741910323 : Int64)) + ((((a0 - (((a0.toUInt64 >>> ((1 : Int32).toInt64.toUInt64 &&& Int64.toUInt64 63)).toInt64) &&& (6148914691236517205 : Int64))).toUInt64 >>> ((2 : Int32).toInt64.toUInt64 &&& Int64.toUInt64 63)).toInt64) &&& (3689348814741910323 : Int64))) + (((((a0 - (((a0.toUInt64 >>> ((1 : Int32).toInt64.toUInt64 &&& Int64.toUInt64 63)).toInt64) &&& (6148914691236517205 : Int64))) &&& (3689348814741910323 : Int64)) + ((((a0 - (((a0.toUInt64 >>> ((1 : Int32).toInt64.toUInt64 &&& Int64.toUInt64 63)).toInt64) &&& (6148914691236517205 : Int64))).toUInt64 >>> ((2 : Int32).toInt64.toUInt64 &&& Int64.toUInt64 63)).toInt64) &&& (3689348814741910323 : Int64))).toUInt64 >>> ((4 : Int32).toInt64.toUInt64 &&& Int64.toUInt64 63)).toInt64)) &&& (1085102592571150095 : Int64)).toUInt64 >>> ((8 : Int32).toInt64.toUInt64 &&& Int64.toUInt64 63)).toInt64)).toUInt64 >>> ((16 : Int32).toInt64.toUInt64 &&& Int64.toUInt64 63)).toInt64)) + (((((((((a0 - (((a0.toUInt64 >>> ((1 : Int32).toInt64.toUInt64 &&& Int64.toUInt64 63)).toInt64) &&& (6148914691236517205 : Int64))) &&& (3689348814741910323 : Int64)) + ((((a0 - (((a0.toUInt64 >>> ((1 : Int32).toInt64.toUInt64 &&& Int64.toUInt64 63)).toInt64) &&& (6148914691236517205 : Int64))).toUInt64 >>> ((2 : Int32).toInt64.toUInt64 &&& Int64.toUInt64 63)).toInt64) &&& (3689348814741910323 : Int64))) + (((((a0 - (((a0.toUInt64 >>> ((1 : Int32).toInt64.toUInt64 &&& Int64.toUInt64 63)).toInt64) &&& (6148914691236517205 : Int64))) &&& (3689348814741910323 : Int64)) + ((((a0 - (((a0.toUInt64 >>> ((1 : Int32).toInt64.toUInt64 &&& Int64.toUInt64 63)).toInt64) &&& (6148914691236517205 : Int64))).toUInt64 >>> ((2 : Int32).toInt64.toUInt64 &&& Int64.toUInt64 63)).toInt64) &&& (3689348814741910323 : Int64))).toUInt64 >>> ((4 : Int32).toInt64.toUInt64 &&& Int64.toUInt64 63)).toInt64)) &&& (1085102592571150095 : Int64)) + (((((((a0 - (((a0.toUInt64 >>> ((1 : Int32).toInt64.toUInt64 &&& Int64.toUInt64 63)).toInt64) &&& (6148914691236517205 : Int64))) &&& (3689348814741910323 : Int64)) + ((((a0 - (((a0.toUInt64 >>> ((1 : Int32).toInt64.toUInt64 &&& Int64.toUInt64 63)).toInt64) &&& (6148914691236517205 : Int64))).toUInt64 >>> ((2 : Int32).toInt64.toUInt64 &&& Int64.toUInt64 63)).toInt64) &&& (3689348814741910323 : Int64))) + (((((a0 - (((a0.toUInt64 >>> ((1 : Int32).toInt64.toUInt64 &&& Int64.toUInt64 63)).toInt64) &&& (6148914691236517205 : Int64))) &&& (3689348814741910323 : Int64)) + ((((a0 - (((a0.toUInt64 >>> ((1 : Int32).toInt64.toUInt64 &&& Int64.toUInt64 63)).toInt64) &&& (6148914691236517205 : Int64))).toUInt64 >>> ((2 : Int32).toInt64.toUInt64 &&& Int64.toUInt64 63)).toInt64) &&& (3689348814741910323 : Int64))).toUInt64 >>> ((4 : Int32).toInt64.toUInt64 &&& Int64.toUInt64 63)).toInt64)) &&& (1085102592571150095 : Int64)).toUInt64 >>> ((8 : Int32).toInt64.toUInt64 &&& Int64.toUInt64 63)).toInt64)) + ((((((((a0 - (((a0.toUInt64 >>> ((1 : Int32).toInt64.toUInt64 &&& Int64.toUInt64 63)).toInt64) &&& (6148914691236517205 : Int64))) &&& (3689348814741910323 : Int64)) + ((((a0 - (((a0.toUInt64 >>> ((1 : Int32).toInt64.toUInt64 &&& Int64.toUInt64 63)).toInt64) &&& (6148914691236517205 : Int64))).toUInt64 >>> ((2 : Int32).toInt64.toUInt64 &&& Int64.toUInt64 63)).toInt64) &&& (3689348814741910323 : Int64))) + (((((a0 - (((a0.toUInt64 >>> ((1 : Int32).toInt64.toUInt64 &&& Int64.toUInt64 63)).toInt64) &&& (6148914691236517205 : Int64))) &&& (3689348814741910323 : Int64)) + ((((a0 - (((a0.toUInt64 >>> ((1 : Int32).toInt64.toUInt64 &&& Int64.toUInt64 63)).toInt64) &&& (6148914691236517205 : Int64))).toUInt64 >>> ((2 : Int32).toInt64.toUInt64 &&& Int64.toUInt64 63)).toInt64) &&& (3689348814741910323 : Int64))).toUInt64 >>> ((4 : Int32).toInt64.toUInt64 &&& Int64.toUInt64 63)).toInt64)) &&& (1085102592571150095 : Int64)) + (((((((a0 - (((a0.toUInt64 >>> ((1 : Int32).toInt64.toUInt64 &&& Int64.toUInt64 63)).toInt64) &&& (6148914691236517205 : Int64))) &&& (3689348814741910323 : Int64)) + ((((a0 - (((a0.toUInt64 >>> ((1 : Int32).toInt64.toUInt64 &&& Int64.toUInt64 63)).toInt64) &&& (6148914691236517205 : Int64))).toUInt64 >>> ((2 : Int32).toInt64.toUInt64 &&& Int64.toUInt64 63)).toInt64) &&& (3689348814741910323 : Int64))) + (((((a0 - (((a0.toUInt64 >>> ((1 : Int32).toInt64.toUInt64 &&& Int64.toUInt64 63)).toInt64) &&& (6148914691236517205 : Int64))) &&& (3689348814741910323 : Int64)) + ((((a0 - (((a0.toUInt64 >>> ((1 : Int32).toInt64.toUInt64 &&& Int64.toUInt64 63)).toInt64) &&& (6148914691236517205 : Int64))).toUInt64 >>> ((2 : Int32).toInt64.toUInt64 &&& Int64.toUInt64 63)).toInt64) &&& (3689348814741910323 : Int64))).toUInt64 >>> ((4 : Int32).toInt64.toUInt64 &&& Int64.toUInt64 63)).toInt64)) &&& (1085102592571150095 : Int64)).toUInt64 >>> ((8 : Int32).toInt64.toUInt64 &&& Int64.toUInt64 63)).toInt64)).toUInt64 >>> ((16 : Int32).toInt64.toUInt64 &&& Int64.toUInt64 63)).toInt64)).toUInt64 >>> ((32 : Int32).toInt64.toUInt64 &&& Int64.toUInt64 63)).toInt64)))]) hx hb d_JL_bitCount_54 rfl hl (by decide) rfl (fun ls hl => ?_)
  refine lv_lload_n hx hb d_JL_bitCount_55 rfl (lv_at hl 0 rfl) ?_
  refine lv_l2i hx hb d_JL_bitCount_56 rfl ?_
  refine lv_bipush (v := 127) hx hb d_JL_bitCount_57 (by decide) ?_
  refine lv_iand hx hb d_JL_bitCount_59 ?_
  rw [← hQ]
  exact W.iret (v := (((((((((a0 - (((a0.toUInt64 >>> ((1 : Int32).toInt64.toUInt64 &&& Int64.toUInt64 63)).toInt64) &&& (6148914691236517205 : Int64))) &&& (3689348814741910323 : Int64)) + ((((a0 - (((a0.toUInt64 >>> ((1 : Int32).toInt64.toUInt64 &&& Int64.toUInt64 63)).toInt64) &&& (6148914691236517205 : Int64))).toUInt64 >>> ((2 : Int32).toInt64.toUInt64 &&& Int64.toUInt64 63)).toInt64) &&& (3689348814741910323 : Int64))) + (((((a0 - (((a0.toUInt64 >>> ((1 : Int32).toInt64.toUInt64 &&& Int64.toUInt64 63)).toInt64) &&& (6148914691236517205 : Int64))) &&& (3689348814741910323 : Int64)) + ((((a0 - (((a0.toUInt64 >>> ((1 : Int32).toInt64.toUInt64 &&& Int64.toUInt64 63)).toInt64) &&& (6148914691236517205 : Int64))).toUInt64 >>> ((2 : Int32).toInt64.toUInt64 &&& Int64.toUInt64 63)).toInt64) &&& (3689348814741910323 : Int64))).toUInt64 >>> ((4 : Int32).toInt64.toUInt64 &&& Int64.toUInt64 63)).toInt64)) &&& (1085102592571150095 : Int64)) + (((((((a0 - (((a0.toUInt64 >>> ((1 : Int32).toInt64.toUInt64 &&& Int64.toUInt64 63)).toInt64) &&& (6148914691236517205 : Int64))) &&& (3689348814741910323 : Int64)) + ((((a0 - (((a0.toUInt64 >>> ((1 : Int32).toInt64.toUInt64 &&& Int64.toUInt64 63)).toInt64) &&& (6148914691236517205 : Int64))).toUInt64 >>> ((2 : Int32).toInt64.toUInt64 &&& Int64.toUInt64 63)).toInt64) &&& (3689348814741910323 : Int64))) + (((((a0 - (((a0.toUInt64 >>> ((1 : Int32).toInt64.toUInt64 &&& Int64.toUInt64 63)).toInt64) &&& (6148914691236517205 : Int64))) &&& (3689348814741910323 : Int64)) + ((((a0 - (((a0.toUInt64 >>> ((1 : Int32).toInt64.toUInt64 &&& Int64.toUInt64 63)).toInt64) &&& (6148914691236517205 : Int64))).toUInt64 >>> ((2 : Int32).toInt64.toUInt64 &&& Int64.toUInt64 63)).toInt64) &&& (3689348814741910323 : Int64))).toUInt64 >>> ((4 : Int32).toInt64.toUInt64 &&& Int64.toUInt64 63)).toInt64)) &&& (1085102592571150095 : Int64)).toUInt64 >>> ((8 : Int32).toInt64.toUInt64 &&& Int64.toUInt64 63)).toInt64)) + ((((((((a0 - (((a0.toUInt64 >>> ((1 : Int32).toInt64.toUInt64 &&& Int64.toUInt64 63)).toInt64) &&& (6148914691236517205 : Int64))) &&& (3689348814741910323 : Int64)) + ((((a0 - (((a0.toUInt64 >>> ((1 : Int32).toInt64.toUInt64 &&& Int64.toUInt64 63)).toInt64) &&& (6148914691236517205 : Int64))).toUInt64 >>> ((2 : Int32).toInt64.toUInt64 &&& Int64.toUInt64 63)).toInt64) &&& (3689348814741910323 : Int64))) + (((((a0 - (((a0.toUInt64 >>> ((1 : Int32).toInt64.toUInt64 &&& Int64.toUInt64 63)).toInt64) &&& (6148914691236517205 : Int64))) &&& (3689348814741910323 : Int64)) + ((((a0 - (((a0.toUInt64 >>> ((1 : Int32).toInt64.toUInt64 &&& Int64.toUInt64 63)).toInt64) &&& (6148914691236517205 : Int64))).toUInt64 >>> ((2 : Int32).toInt64.toUInt64 &&& Int64.toUInt64 63)).toInt64) &&& (3689348814741910323 : Int64))).toUInt64 >>> ((4 : Int32).toInt64.toUInt64 &&& Int64.toUInt64 63)).toInt64)) &&& (1085102592571150095 : Int64)) + (((((((a0 - (((a0.toUInt64 >>> ((1 : Int32).toInt64.toUInt64 &&& Int64.toUInt64 63)).toInt64) &&& (6148914691236517205 : Int64))) &&& (3689348814741910323 : Int64)) + ((((a0 - (((a0.toUInt64 >>> ((1 : Int32).toInt64.toUInt64 &&& Int64.toUInt64 63)).toInt64) &&& (6148914691236517205 : Int64))).toUInt64 >>> ((2 : Int32).toInt64.toUInt64 &&& Int64.toUInt64 63)).toInt64) &&& (3689348814741910323 : Int64))) + (((((a0 - (((a0.toUInt64 >>> ((1 : Int32).toInt64.toUInt64 &&& Int64.toUInt64 63)).toInt64) &&& (6148914691236517205 : Int64))) &&& (3689348814741910323 : Int64)) + ((((a0 - (((a0.toUInt64 >>> ((1 : Int32).toInt64.toUInt64 &&& Int64.toUInt64 63)).toInt64) &&& (6148914691236517205 : Int64))).toUInt64 >>> ((2 : Int32).toInt64.toUInt64 &&& Int64.toUInt64 63)).toInt64) &&& (3689348814741910323 : Int64))).toUInt64 >>> ((4 : Int32).toInt64.toUInt64 &&& Int64.toUInt64 63)).toInt64)) &&& (1085102592571150095 : Int64)).toUInt64 >>> ((8 : Int32).toInt64.toUInt64 &&& Int64.toUInt64 63)).toInt64)).toUInt64 >>> ((16 : Int32).toInt64.toUInt64 &&& Int64.toUInt64 63)).toInt64)) + (((((((((a0 - (((a0.toUInt64 >>> ((1 : Int32).toInt64.toUInt64 &&& Int64.toUInt64 63)).toInt64) &&& (6148914691236517205 : Int64))) &&& (3689348814741910323 : Int64)) + ((((a0 - (((a0.toUInt64 >>> ((1 : Int32).toInt64.toUInt64 &&& Int64.toUInt64 63)).toInt64) &&& (6148914691236517205 : Int64))).toUInt64 >>> ((2 : Int32).toInt64.toUInt64 &&& Int64.toUInt64 63)).toInt64) &&& (3689348814741910323 : Int64))) + (((((a0 - (((a0.toUInt64 >>> ((1 : Int32).toInt64.toUInt64 &&& Int64.toUInt64 63)).toInt64) &&& (6148914691236517205 : Int64))) &&& (3689348814741910323 : Int64)) + ((((a0 - (((a0.toUInt64 >>> ((1 : Int32).toInt64.toUInt64 &&& Int64.toUInt64 63)).toInt64) &&& (6148914691236517205 : Int64))).toUInt64 >>> ((2 : Int32).toInt64.toUInt64 &&& Int64.toUInt64 63)).toInt64) &&& (3689348814741910323 : Int64))).toUInt64 >>> ((4 : Int32).toInt64.toUInt64 &&& Int64.toUInt64 63)).toInt64)) &&& (1085102592571150095 : Int64)) + (((((((a0 - (((a0.toUInt64 >>> ((1 : Int32).toInt64.toUInt64 &&& Int64.toUInt64 63)).toInt64) &&& (6148914691236517205 : Int64))) &&& (3689348814741910323 : Int64)) + ((((a0 - (((a0.toUInt64 >>> ((1 : Int32).toInt64.toUInt64 &&& Int64.toUInt64 63)).toInt64) &&& (6148914691236517205 : Int64))).toUInt64 >>> ((2 : Int32).toInt64.toUInt64 &&& Int64.toUInt64 63)).toInt64) &&& (3689348814741910323 : Int64))) + (((((a0 - (((a0.toUInt64 >>> ((1 : Int32).toInt64.toUInt64 &&& Int64.toUInt64 63)).toInt64) &&& (6148914691236517205 : Int64))) &&& (3689348814741910323 : Int64)) + ((((a0 - (((a0.toUInt64 >>> ((1 : Int32).toInt64.toUInt64 &&& Int64.toUInt64 63)).toInt64) &&& (6148914691236517205 : Int64))).toUInt64 >>> ((2 : Int32).toInt64.toUInt64 &&& Int64.toUInt64 63)).toInt64) &&& (3689348814741910323 : Int64))).toUInt64 >>> ((4 : Int32).toInt64.toUInt64 &&& Int64.toUInt64 63)).toInt64)) &&& (1085102592571150095 : Int64)).toUInt64 >>> ((8 : Int32).toInt64.toUInt64 &&& Int64.toUInt64 63)).toInt64)) + ((((((((a0 - (((a0.toUInt64 >>> ((1 : Int32).toInt64.toUInt64 &&& Int64.toUInt64 63)).toInt64) &&& (6148914691236517205 : Int64))) &&& (3689348814741910323 : Int64)) + ((((a0 - (((a0.toUInt64 >>> ((1 : Int32).toInt64.toUInt64 &&& Int64.toUInt64 63)).toInt64) &&& (6148914691236517205 : Int64))).toUInt64 >>> ((2 : Int32).toInt64.toUInt64 &&& Int64.toUInt64 63)).toInt64) &&& (3689348814741910323 : Int64))) + (((((a0 - (((a0.toUInt64 >>> ((1 : Int32).toInt64.toUInt64 &&& Int64.toUInt64 63)).toInt64) &&& (6148914691236517205 : Int64))) &&& (3689348814741910323 : Int64)) + ((((a0 - (((a0.toUInt64 >>> ((1 : Int32).toInt64.toUInt64 &&& Int64.toUInt64 63)).toInt64) &&& (6148914691236517205 : Int64))).toUInt64 >>> ((2 : Int32).toInt64.toUInt64 &&& Int64.toUInt64 63)).toInt64) &&& (3689348814741910323 : Int64))).toUInt64 >>> ((4 : Int32).toInt64.toUInt64 &&& Int64.toUInt64 63)).toInt64)) &&& (1085102592571150095 : Int64)) + (((((((a0 - (((a0.toUInt64 >>> ((1 : Int32).toInt64.toUInt64 &&& Int64.toUInt64 63)).toInt64) &&& (6148914691236517205 : Int64))) &&& (3689348814741910323 : Int64)) + ((((a0 - (((a0.toUInt64 >>> ((1 : Int32).toInt64.toUInt64 &&& Int64.toUInt64 63)).toInt64) &&& (6148914691236517205 : Int64))).toUInt64 >>> ((2 : Int32).toInt64.toUInt64 &&& Int64.toUInt64 63)).toInt64) &&& (3689348814741910323 : Int64))) + (((((a0 - (((a0.toUInt64 >>> ((1 : Int32).toInt64.toUInt64 &&& Int64.toUInt64 63)).toInt64) &&& (6148914691236517205 : Int64))) &&& (3689348814741910323 : Int64)) + ((((a0 - (((a0.toUInt64 >>> ((1 : Int32).toInt64.toUInt64 &&& Int64.toUInt64 63)).toInt64) &&& (6148914691236517205 : Int64))).toUInt64 >>> ((2 : Int32).toInt64.toUInt64 &&& Int64.toUInt64 63)).toInt64) &&& (3689348814741910323 : Int64))).toUInt64 >>> ((4 : Int32).toInt64.toUInt64 &&& Int64.toUInt64 63)).toInt64)) &&& (1085102592571150095 : Int64)).toUInt64 >>> ((8 : Int32).toInt64.toUInt64 &&& Int64.toUInt64 63)).toInt64)).toUInt64 >>> ((16 : Int32).toInt64.toUInt64 &&& Int64.toUInt64 63)).toInt64)).toUInt64 >>> ((32 : Int32).toInt64.toUInt64 &&& Int64.toUInt64 63)).toInt64)).toInt32) &&& (127 : Int32)) hx hb hr (fun t ht hW => ⟨⟨(((((((((a0 - (((a0.toUInt64 >>> ((1 : Int32).toInt64.toUInt64 &&& Int64.toUInt64 63)).toInt64) &&& (6148914691236517205 : Int64))) &&& (3689348814741910323 : Int64)) + ((((a0 - (((a0.toUInt64 >>> ((1 : Int32).toInt64.toUInt64 &&& Int64.toUInt64 63)).toInt64) &&& (6148914691236517205 : Int64))).toUInt64 >>> ((2 : Int32).toInt64.toUInt64 &&& Int64.toUInt64 63)).toInt64) &&& (3689348814741910323 : Int64))) + (((((a0 - (((a0.toUInt64 >>> ((1 : Int32).toInt64.toUInt64 &&& Int64.toUInt64 63)).toInt64) &&& (6148914691236517205 : Int64))) &&& (3689348814741910323 : Int64)) + ((((a0 - (((a0.toUInt64 >>> ((1 : Int32).toInt64.toUInt64 &&& Int64.toUInt64 63)).toInt64) &&& (6148914691236517205 : Int64))).toUInt64 >>> ((2 : Int32).toInt64.toUInt64 &&& Int64.toUInt64 63)).toInt64) &&& (3689348814741910323 : Int64))).toUInt64 >>> ((4 : Int32).toInt64.toUInt64 &&& Int64.toUInt64 63)).toInt64)) &&& (1085102592571150095 : Int64)) + (((((((a0 - (((a0.toUInt64 >>> ((1 : Int32).toInt64.toUInt64 &&& Int64.toUInt64 63)).toInt64) &&& (6148914691236517205 : Int64))) &&& (3689348814741910323 : Int64)) + ((((a0 - (((a0.toUInt64 >>> ((1 : Int32).toInt64.toUInt64 &&& Int64.toUInt64 63)).toInt64) &&& (6148914691236517205 : Int64))).toUInt64 >>> ((2 : Int32).toInt64.toUInt64 &&& Int64.toUInt64 63)).toInt64) &&& (3689348814741910323 : Int64))) + (((((a0 - (((a0.toUInt64 >>> ((1 : Int32).toInt64.toUInt64 &&& Int64.toUInt64 63)).toInt64) &&& (6148914691236517205 : Int64))) &&& (3689348814741910323 : Int64)) + ((((a0 - (((a0.toUInt64 >>> ((1 : Int32).toInt64.toUInt64 &&& Int64.toUInt64 63)).toInt64) &&& (6148914691236517205 : Int64))).toUInt64 >>> ((2 : Int32).toInt64.toUInt64 &&& Int64.toUInt64 63)).toInt64) &&& (3689348814741910323 : Int64))).toUInt64 >>> ((4 : Int32).toInt64.toUInt64 &&& Int64.toUInt64 63)).toInt64)) &&& (1085102592571150095 : Int64)).toUInt64 >>> ((8 : Int32).toInt64.toUInt64 &&& Int64.toUInt64 63)).toInt64)) + ((((((((a0 - (((a0.toUInt64 >>> ((1 : Int32).toInt64.toUInt64 &&& Int64.toUInt64 63)).toInt64) &&& (6148914691236517205 : Int64))) &&& (3689348814741910323 : Int64)) + ((((a0 - (((a0.toUInt64 >>> ((1 : Int32).toInt64.toUInt64 &&& Int64.toUInt64 63)).toInt64) &&& (6148914691236517205 : Int64))).toUInt64 >>> ((2 : Int32).toInt64.toUInt64 &&& Int64.toUInt64 63)).toInt64) &&& (3689348814741910323 : Int64))) + (((((a0 - (((a0.toUInt64 >>> ((1 : Int32).toInt64.toUInt64 &&& Int64.toUInt64 63)).toInt64) &&& (6148914691236517205 : Int64))) &&& (3689348814741910323 : Int64)) + ((((a0 - (((a0.toUInt64 >>> ((1 : Int32).toInt64.toUInt64 &&& Int64.toUInt64 63)).toInt64) &&& (6148914691236517205 : Int64))).toUInt64 >>> ((2 : Int32).toInt64.toUInt64 &&& Int64.toUInt64 63)).toInt64) &&& (3689348814741910323 : Int64))).toUInt64 >>> ((4 : Int32).toInt64.toUInt64 &&& Int64.toUInt64 63)).toInt64)) &&& (1085102592571150095 : Int64)) + (((((((a0 - (((a0.toUInt64 >>> ((1 : Int32).toInt64.toUInt64 &&& Int64.toUInt64 63)).toInt64) &&& (6148914691236517205 : Int64))) &&& (3689348814741910323 : Int64)) + ((((a0 - (((a0.toUInt64 >>> ((1 : Int32).toInt64.toUInt64 &&& Int64.toUInt64 63)).toInt64) &&& (6148914691236517205 : Int64))).toUInt64 >>> ((2 : Int32).toInt64.toUInt64 &&& Int64.toUInt64 63)).toInt64) &&& (3689348814741910323 : Int64))) + (((((a0 - (((a0.toUInt64 >>> ((1 : Int32).toInt64.toUInt64 &&& Int64.toUInt64 63)).toInt64) &&& (6148914691236517205 : Int64))) &&& (3689348814741910323 : Int64)) + ((((a0 - (((a0.toUInt64 >>> ((1 : Int32).toInt64.toUInt64 &&& Int64.toUInt64 63)).toInt64) &&& (6148914691236517205 : Int64))).toUInt64 >>> ((2 : Int32).toInt64.toUInt64 &&& Int64.toUInt64 63)).toInt64) &&& (3689348814741910323 : Int64))).toUInt64 >>> ((4 : Int32).toInt64.toUInt64 &&& Int64.toUInt64 63)).toInt64)) &&& (1085102592571150095 : Int64)).toUInt64 >>> ((8 : Int32).toInt64.toUInt64 &&& Int64.toUInt64 63)).toInt64)).toUInt64 >>> ((16 : Int32).toInt64.toUInt64 &&& Int64.toUInt64 63)).toInt64)) + (((((((((a0 - (((a0.toUInt64 >>> ((1 : Int32).toInt64.toUInt64 &&& Int64.toUInt64 63)).toInt64) &&& (6148914691236517205 : Int64))) &&& (3689348814741910323 : Int64)) + ((((a0 - (((a0.toUInt64 >>> ((1 : Int32).toInt64.toUInt64 &&& Int64.toUInt64 63)).toInt64) &&& (6148914691236517205 : Int64))).toUInt64 >>> ((2 : Int32).toInt64.toUInt64 &&& Int64.toUInt64 63)).toInt64) &&& (3689348814741910323 : Int64))) + (((((a0 - (((a0.toUInt64 >>> ((1 : Int32).toInt64.toUInt64 &&& Int64.toUInt64 63)).toInt64) &&& (6148914691236517205 : Int64))) &&& (3689348814741910323 : Int64)) + ((((a0 - (((a0.toUInt64 >>> ((1 : Int32).toInt64.toUInt64 &&& Int64.toUInt64 63)).toInt64) &&& (6148914691236517205 : Int64))).toUInt64 >>> ((2 : Int32).toInt64.toUInt64 &&& Int64.toUInt64 63)).toInt64) &&& (3689348814741910323 : Int64))).toUInt64 >>> ((4 : Int32).toInt64.toUInt64 &&& Int64.toUInt64 63)).toInt64)) &&& (1085102592571150095 : Int64)) + (((((((a0 - (((a0.toUInt64 >>> ((1 : Int32).toInt64.toUInt64 &&& Int64.toUInt64 63)).toInt64) &&& (6148914691236517205 : Int64))) &&& (3689348814741910323 : Int64)) + ((((a0 - (((a0.toUInt64 >>> ((1 : Int32).toInt64.toUInt64 &&& Int64.toUInt64 63)).toInt64) &&& (6148914691236517205 : Int64))).toUInt64 >>> ((2 : Int32).toInt64.toUInt64 &&& Int64.toUInt64 63)).toInt64) &&& (3689348814741910323 : Int64))) + (((((a0 - (((a0.toUInt64 >>> ((1 : Int32).toInt64.toUInt64 &&& Int64.toUInt64 63)).toInt64) &&& (6148914691236517205 : Int64))) &&& (3689348814741910323 : Int64)) + ((((a0 - (((a0.toUInt64 >>> ((1 : Int32).toInt64.toUInt64 &&& Int64.toUInt64 63)).toInt64) &&& (6148914691236517205 : Int64))).toUInt64 >>> ((2 : Int32).toInt64.toUInt64 &&& Int64.toUInt64 63)).toInt64) &&& (3689348814741910323 : Int64))).toUInt64 >>> ((4 : Int32).toInt64.toUInt64 &&& Int64.toUInt64 63)).toInt64)) &&& (1085102592571150095 : Int64)).toUInt64 >>> ((8 : Int32).toInt64.toUInt64 &&& Int64.toUInt64 63)).toInt64)) + ((((((((a0 - (((a0.toUInt64 >>> ((1 : Int32).toInt64.toUInt64 &&& Int64.toUInt64 63)).toInt64) &&& (6148914691236517205 : Int64))) &&& (3689348814741910323 : Int64)) + ((((a0 - (((a0.toUInt64 >>> ((1 : Int32).toInt64.toUInt64 &&& Int64.toUInt64 63)).toInt64) &&& (6148914691236517205 : Int64))).toUInt64 >>> ((2 : Int32).toInt64.toUInt64 &&& Int64.toUInt64 63)).toInt64) &&& (3689348814741910323 : Int64))) + (((((a0 - (((a0.toUInt64 >>> ((1 : Int32).toInt64.toUInt64 &&& Int64.toUInt64 63)).toInt64) &&& (6148914691236517205 : Int64))) &&& (3689348814741910323 : Int64)) + ((((a0 - (((a0.toUInt64 >>> ((1 : Int32).toInt64.toUInt64 &&& Int64.toUInt64 63)).toInt64) &&& (6148914691236517205 : Int64))).toUInt64 >>> ((2 : Int32).toInt64.toUInt64 &&& Int64.toUInt64 63)).toInt64) &&& (3689348814741910323 : Int64))).toUInt64 >>> ((4 : Int32).toInt64.toUInt64 &&& Int64.toUInt64 63)).toInt64)) &&& (1085102592571150095 : Int64)) + (((((((a0 - (((a0.toUInt64 >>> ((1 : Int32).toInt64.toUInt64 &&& Int64.toUInt64 63)).toInt64) &&& (6148914691236517205 : Int64))) &&& (3689348814741910323 : Int64)) + ((((a0 - (((a0.toUInt64 >>> ((1 : Int32).toInt64.toUInt64 &&& Int64.toUInt64 63)).toInt64) &&& (6148914691236517205 : Int64))).toUInt64 >>> ((2 : Int32).toInt64.toUInt64 &&& Int64.toUInt64 63)).toInt64) &&& (3689348814741910323 : Int64))) + (((((a0 - (((a0.toUInt64 >>> ((1 : Int32).toInt64.toUInt64 &&& Int64.toUInt64 63)).toInt64) &&& (6148914691236517205 : Int64))) &&& (3689348814741910323 : Int64)) + ((((a0 - (((a0.toUInt64 >>> ((1 : Int32).toInt64.toUInt64 &&& Int64.toUInt64 63)).toInt64) &&& (6148914691236517205 : Int64))).toUInt64 >>> ((2 : Int32).toInt64.toUInt64 &&& Int64.toUInt64 63)).toInt64) &&& (3689348814741910323 : Int64))).toUInt64 >>> ((4 : Int32).toInt64.toUInt64 &&& Int64.toUInt64 63)).toInt64)) &&& (1085102592571150095 : Int64)).toUInt64 >>> ((8 : Int32).toInt64.toUInt64 &&& Int64.toUInt64 63)).toInt64)).toUInt64 >>> ((16 : Int32).toInt64.toUInt64 &&& Int64.toUInt64 63)).toInt64)).toUInt64 >>> ((32 : Int32).toInt64.toUInt64 &&& Int64.toUInt64 63)).toInt64)).toInt32) &&& (127 : Int32), (), rfl, hf.symm, by rw [ht]; exact hP, va_K.moved hW.alike hK⟩, hS.F ht⟩) hS.2.2 d_JL_bitCount_60
set_option maxHeartbeats 4000000 in
set_option maxRecDepth 100000 in
theorem c_Board_isAboveTop (l : Launch) (D : va_G) (cA : Nat → ClassId) (ad : Nat → Nat) (hI : InjA ad) (sz : Nat) (a1 : Int64) (S : SS) (hs : f_Board_isAboveTop a1 S ≠ none) : Met l y_Board_isAboveTop w_Board_isAboveTop ({ frames := 1, cells := 0, slots := 0, locals := 21 }) (va_Pc [.ref (ad 2), .long a1] (fun U => U.heap.size = sz ∧ va_P D vwCl (X cA ad S) U.heap ∧ va_K D vwCl (tysX cA) U)) (va_Qi (fun (r : Int32) (_ : Unit) => f_Board_isAboveTop a1 S = some r ∧ (r = 0 ∨ r = 1)) (fun (_ : Unit) t => va_P D vwCl (X cA ad S) t.heap ∧ va_K D vwCl (tysX cA) t) (AS ad sz)) 0 0 (AS ad sz) := by
  refine Met.ofW (cc := b_Board_isAboveTop) (maxL := 4) (ret := (some .boolean)) (by decide) rfl ?_
  intro p e s m args below meth c s₁ B hml hv
  obtain ⟨rfl, hsz, hP, hK⟩ := hv
  have hx := B.exec
  have hb := B.bytes
  have hr := B.returns
  have hts := atoms_spec (ws := w_Board_isAboveTop) B.pre
  have ht := fun w h => hts w (List.mem_cons_of_mem _ h)
  have hown : s.vm.findClass R_Board = some m.cls := findClass_of_methodNamed B.named
  have hlocks := B.notSynchronized
  subst hsz
  have hAd : ∀ q, q < NP → AS ad s.heap.size (ad q) := fun q h => Or.inl ⟨q, h, rfl⟩
  have hA : ∀ q : Nat, s.heap.size ≤ q → AS ad s.heap.size q := fun q h => Or.inr h
  have hAS : ∀ z : Nat, s.heap.size ≤ z → ∀ q : Nat, AS ad z q → AS ad s.heap.size q := fun z h q hq => hq.elim Or.inl (fun g => Or.inr (Nat.le_trans h g))
  generalize hAe : AS ad s.heap.size = A at hAd hA hAS ⊢
  have hS : va_S A s.heap s.heap [] := va_S.rf
  have hl := lv_entry ([.ref (ad 2), .long a1]) (n := 4) (Nat.le_of_ble_eq_true rfl)
  rw [lg_entry_eq]
  generalize (lg_sl ([.ref (ad 2), .long a1]) ++ List.replicate (4 - (lg_sl ([.ref (ad 2), .long a1])).length) Slot.unset).toArray = ls at hl ⊢
  have hl : lv_has ls 4 [(0, .ref (ad 2)), (1, .long a1)] := hl
  have hf := (f_Board_isAboveTop_s a1 S).symm
  generalize hQ : MQ below _ _ s _ _ _ = Q
  refine lv_iconst (v := 0) hx hb d_Board_isAboveTop_0 (by decide) ?_
  refine lv_istore_n (lv' := [(3, .int (0 : Int32)), (0, .ref (ad 2)), (1, .long a1)]) hx hb d_Board_isAboveTop_1 rfl hl (by decide) rfl (fun ls hl => ?_)
  have lp2_1 : ∀ (n : Nat) (x3_1 : Int32) (H : Heap) (locs : List Loc) (ls : Array Slot), va_P D vwCl (X cA ad S) H → va_S A s.heap H locs → lv_has ls 4 [(0, .ref (ad 2)), (1, .long a1), (3, .int x3_1)] → f_Board_isAboveTop_L2 a1 n x3_1 S ≠ none →
      (∀ o : Int32, f_Board_isAboveTop_L2 a1 n x3_1 S = some (.inl o) → f_Board_isAboveTop a1 S = some o) →
      (∀ v : Unit, f_Board_isAboveTop_L2 a1 n x3_1 S = some (.inr v) → ∀ (H : Heap) (locs : List Loc) (ls : Array Slot), va_P D vwCl (X cA ad S) H → va_S A s.heap H locs → lv_has ls 4 [(0, .ref (ad 2)), (1, .long a1)] → W p l e (headSpec w_Board_isAboveTop ({ frames := 1, cells := 0, slots := 0, locals := 21 })).room s m ([.ref (ad 2), .long a1] : List Value).toArray below meth c H locs 0 0 Q (F0 m 44 ls [])) →
      W p l e (headSpec w_Board_isAboveTop ({ frames := 1, cells := 0, slots := 0, locals := 21 })).room s m ([.ref (ad 2), .long a1] : List Value).toArray below meth c H locs 0 0 Q (F0 m 2 ls []) := by
    intro n
    induction n with
    | zero => intro x3_1 H locs ls hP hS hl hs; exact absurd rfl hs
    | succ n ih =>
      intro x3_1 H locs ls hP hS hl hs hret hexit
      have hf := (f_Board_isAboveTop_L2_s a1 n x3_1 S).symm
      refine lv_iload_n hx hb d_Board_isAboveTop_2 rfl (lv_at hl 2 rfl) ?_
      refine lv_aload_n hx hb d_Board_isAboveTop_3 rfl (lv_at hl 0 rfl) ?_
      refine va_get (D := D) (ci := 2) (v := .ref (ad 1)) (C := R_Board) (T := T_Board) (N := 7) hx hb ht i_Board hown hK hP 2 Xa_2 rfl 0 (by decide) (ht _ mF_Board_29) (fun _ h9 => h9) rfl d_Board_isAboveTop_4 ?_
      refine va_get (D := D) (ci := 1) (v := .int (S.1 1 0)) (C := R_Law) (T := T_Law) (N := 5) hx hb ht i_Law hown hK hP 1 Xa_1 rfl 0 (by decide) (ht _ mF_Board_79) (fun _ h9 => h9) rfl d_Board_isAboveTop_7 ?_
      refine lv_icmp_ge (tgt := 44) hx hb d_Board_isAboveTop_10 (by decide) (fun c1 => ?_) (fun c1 => ?_)
      · rw [if_pos c1] at hf
        exact hexit _ hf.symm _ _ _ hP hS (lv_sub hl [0, 1] rfl)
      · rw [if_neg c1] at hf
        refine lv_lload_n hx hb d_Board_isAboveTop_13 rfl (lv_at hl 1 rfl) ?_
        refine lv_iload_n hx hb d_Board_isAboveTop_14 rfl (lv_at hl 2 rfl) ?_
        refine lv_bipush (v := 8) hx hb d_Board_isAboveTop_15 (by decide) ?_
        refine lv_imul hx hb d_Board_isAboveTop_17 ?_
        refine lv_lushr hx hb d_Board_isAboveTop_18 rfl ?_
        refine lv_ldc2 (v := 255) hx hb hown (ht _ mC_Board_84) d_Board_isAboveTop_19 ?_
        refine lv_land hx hb d_Board_isAboveTop_22 ?_
        refine va_calli (va_runS (As := [.long (((a1.toUInt64 >>> ((x3_1 * (8 : Int32)).toInt64.toUInt64 &&& Int64.toUInt64 63)).toInt64) &&& (255 : Int64))]) (rest := []) ⟨hx, hb, hml, hown, ht⟩ (c_JL_bitCount l D cA ad hI H.size (((a1.toUInt64 >>> ((x3_1 * (8 : Int32)).toInt64.toUInt64 &&& Int64.toUInt64 63)).toInt64) &&& (255 : Int64)) S (fun hn => hs (by rw [hn] at hf; exact hf.symm))) (va_cwS 1 ht (good_G (gS mM_Board_86 mS_JL_bitCount mN_JL mk_JL_bitCount)) rfl rfl rfl (by decide +kernel) ⟨Nat.le_of_ble_eq_true rfl, Nat.le_of_ble_eq_true rfl⟩) ⟨fun a U g mk q => ⟨q.1, q.2.1, q.2.2.1, va_K.moved (u := U) (U := U.calling g mk a) (Vm.Alike.refl U.vm) q.2.2.2⟩, fun U hU hW => ⟨rfl, by rw [hU], by rw [hU]; exact hP, va_K.moved hW.alike hK⟩⟩ rfl rfl hl.1 rfl (lv_room (Nat.le_of_ble_eq_true rfl)) d_Board_isAboveTop_23 ⟨Nat.le_of_ble_eq_true rfl, Nat.le_of_ble_eq_true rfl⟩) hS (fun q _ h => hAS _ hS.1 q h) (fun q h => hAS _ hS.1 q h) (fun r1 _ t H locs ht9 hvm hw hB hz1 hk1 hS => ?_)
        obtain ⟨hP, hK9⟩ := hB
        rw [ht9] at hP
        rw [hw, Option.bind_some] at hf
        refine lv_aload_n hx hb d_Board_isAboveTop_26 rfl (lv_at hl 0 rfl) ?_
        refine va_get (D := D) (ci := 2) (v := .ref (ad 1)) (C := R_Board) (T := T_Board) (N := 7) hx hb ht i_Board hown hK hP 2 Xa_2 rfl 0 (by decide) (ht _ mF_Board_29) (fun _ h9 => h9) rfl d_Board_isAboveTop_27 ?_
        refine va_get (D := D) (ci := 1) (v := .int (S.1 1 3)) (C := R_Law) (T := T_Law) (N := 5) hx hb ht i_Law hown hK hP 1 Xa_1 rfl 3 (by decide) (ht _ mF_Board_91) (fun _ h9 => h9) rfl d_Board_isAboveTop_30 ?_
        refine lv_icmp_le (tgt := 38) hx hb d_Board_isAboveTop_33 (by decide) (fun c2 => ?_) (fun c2 => ?_)
        · rw [if_pos c2] at hf
          refine lv_iinc (v := x3_1 + 1) (lv' := [(3, .int (x3_1 + 1)), (0, .ref (ad 2)), (1, .long a1)]) hx hb d_Board_isAboveTop_38 hl (k := 2) rfl rfl (by decide) rfl (fun ls hl => ?_)
          refine lv_goto (tgt := 2) hx hb d_Board_isAboveTop_41 (by decide) ?_
          exact ih (x3_1 + 1) _ _ _ hP hS (lv_sub hl [1, 2, 0] rfl) (fun hn => hs (hf.symm.trans hn)) (fun o ho => hret o (hf.symm.trans ho)) (fun v ho => hexit v (hf.symm.trans ho))
        · rw [if_neg c2] at hf
          refine lv_iconst (v := 1) hx hb d_Board_isAboveTop_36 (by decide) ?_
          rw [← hQ]
          have hz : (1 : Int32) = 0 ∨ (1 : Int32) = 1 := Or.inr rfl
          exact W.zret (v := (1 : Int32)) hx hb hr (zb_n hz) (fun t ht hW => ⟨⟨(1 : Int32), (), rfl, ⟨hret _ hf.symm, hz⟩, by rw [ht]; exact hP, va_K.moved hW.alike hK⟩, hS.F ht⟩) hS.2.2 d_Board_isAboveTop_37
  refine lp2_1 FU (0 : Int32) _ _ _ hP hS (lv_sub hl [1, 2, 0] rfl) (fun hn => ?_) (fun o ho => ?_) (fun v3 hvv3 H locs ls hP hS hl => ?_)
  · rw [hn] at hf; exact hs hf.symm
  · rw [ho, Option.bind_some, Sum.elim_inl] at hf; exact hf.symm
  · rw [hvv3, Option.bind_some, Sum.elim_inr] at hf
    refine lv_iconst (v := 0) hx hb d_Board_isAboveTop_44 (by decide) ?_
    rw [← hQ]
    have hz : (0 : Int32) = 0 ∨ (0 : Int32) = 1 := Or.inl rfl
    exact W.zret (v := (0 : Int32)) hx hb hr (zb_n hz) (fun t ht hW => ⟨⟨(0 : Int32), (), rfl, ⟨hf.symm, hz⟩, by rw [ht]; exact hP, va_K.moved hW.alike hK⟩, hS.F ht⟩) hS.2.2 d_Board_isAboveTop_45
set_option maxHeartbeats 4000000 in
set_option maxRecDepth 100000 in
theorem c_Board_strangerFits (l : Launch) (D : va_G) (cA : Nat → ClassId) (ad : Nat → Nat) (hI : InjA ad) (sz : Nat) (a1 : Int64) (a3 : Int32) (a4 : Int32) (S : SS) (hs : f_Board_strangerFits a1 a3 a4 S ≠ none) : Met l y_Board_strangerFits w_Board_strangerFits ({ frames := 1, cells := 0, slots := 0, locals := 23 }) (va_Pc [.ref (ad 2), .long a1, .int a3, .int a4] (fun U => U.heap.size = sz ∧ va_P D vwCl (X cA ad S) U.heap ∧ va_K D vwCl (tysX cA) U)) (va_Qi (fun (r : Int32) (_ : Unit) => f_Board_strangerFits a1 a3 a4 S = some r ∧ (r = 0 ∨ r = 1)) (fun (_ : Unit) t => va_P D vwCl (X cA ad S) t.heap ∧ va_K D vwCl (tysX cA) t) (AS ad sz)) 0 0 (AS ad sz) := by
  refine Met.ofW (cc := b_Board_strangerFits) (maxL := 6) (ret := (some .boolean)) (by decide) rfl ?_
  intro p e s m args below meth c s₁ B hml hv
  obtain ⟨rfl, hsz, hP, hK⟩ := hv
  have hx := B.exec
  have hb := B.bytes
  have hr := B.returns
  have hts := atoms_spec (ws := w_Board_strangerFits) B.pre
  have ht := fun w h => hts w (List.mem_cons_of_mem _ h)
  have hown : s.vm.findClass R_Board = some m.cls := findClass_of_methodNamed B.named
  have hlocks := B.notSynchronized
  subst hsz
  have hAd : ∀ q, q < NP → AS ad s.heap.size (ad q) := fun q h => Or.inl ⟨q, h, rfl⟩
  have hA : ∀ q : Nat, s.heap.size ≤ q → AS ad s.heap.size q := fun q h => Or.inr h
  have hAS : ∀ z : Nat, s.heap.size ≤ z → ∀ q : Nat, AS ad z q → AS ad s.heap.size q := fun z h q hq => hq.elim Or.inl (fun g => Or.inr (Nat.le_trans h g))
  generalize hAe : AS ad s.heap.size = A at hAd hA hAS ⊢
  have hS : va_S A s.heap s.heap [] := va_S.rf
  have hl := lv_entry ([.ref (ad 2), .long a1, .int a3, .int a4]) (n := 6) (Nat.le_of_ble_eq_true rfl)
  rw [lg_entry_eq]
  generalize (lg_sl ([.ref (ad 2), .long a1, .int a3, .int a4]) ++ List.replicate (6 - (lg_sl ([.ref (ad 2), .long a1, .int a3, .int a4])).length) Slot.unset).toArray = ls at hl ⊢
  have hl : lv_has ls 6 [(0, .ref (ad 2)), (1, .long a1), (3, .int a3), (4, .int a4)] := hl
  have hf := (f_Board_strangerFits_s a1 a3 a4 S).symm
  generalize hQ : MQ below _ _ s _ _ _ = Q
  refine lv_iconst (v := 0) hx hb d_Board_strangerFits_0 (by decide) ?_
  refine lv_istore (lv' := [(5, .int (0 : Int32)), (0, .ref (ad 2)), (1, .long a1), (3, .int a3), (4, .int a4)]) hx hb d_Board_strangerFits_1 hl (by decide) rfl (fun ls hl => ?_)
  have lp3_1 : ∀ (n : Nat) (x5_1 : Int32) (H : Heap) (locs : List Loc) (ls : Array Slot), va_P D vwCl (X cA ad S) H → va_S A s.heap H locs → lv_has ls 6 [(0, .ref (ad 2)), (1, .long a1), (3, .int a3), (4, .int a4), (5, .int x5_1)] → f_Board_strangerFits_L3 a1 a3 a4 n x5_1 S ≠ none →
      (∀ o : Int32, f_Board_strangerFits_L3 a1 a3 a4 n x5_1 S = some (.inl o) → f_Board_strangerFits a1 a3 a4 S = some o) →
      (∀ v : Unit, f_Board_strangerFits_L3 a1 a3 a4 n x5_1 S = some (.inr v) → ∀ (H : Heap) (locs : List Loc) (ls : Array Slot), va_P D vwCl (X cA ad S) H → va_S A s.heap H locs → lv_has ls 6 [(0, .ref (ad 2)), (1, .long a1), (3, .int a3), (4, .int a4)] → W p l e (headSpec w_Board_strangerFits ({ frames := 1, cells := 0, slots := 0, locals := 23 })).room s m ([.ref (ad 2), .long a1, .int a3, .int a4] : List Value).toArray below meth c H locs 0 0 Q (F0 m 42 ls [])) →
      W p l e (headSpec w_Board_strangerFits ({ frames := 1, cells := 0, slots := 0, locals := 23 })).room s m ([.ref (ad 2), .long a1, .int a3, .int a4] : List Value).toArray below meth c H locs 0 0 Q (F0 m 3 ls []) := by
    intro n
    induction n with
    | zero => intro x5_1 H locs ls hP hS hl hs; exact absurd rfl hs
    | succ n ih =>
      intro x5_1 H locs ls hP hS hl hs hret hexit
      have hf := (f_Board_strangerFits_L3_s a1 a3 a4 n x5_1 S).symm
      refine lv_iload hx hb d_Board_strangerFits_3 (lv_at hl 4 rfl) ?_
      refine lv_iload hx hb d_Board_strangerFits_5 (lv_at hl 3 rfl) ?_
      refine lv_icmp_ge (tgt := 42) hx hb d_Board_strangerFits_7 (by decide) (fun c1 => ?_) (fun c1 => ?_)
      · rw [if_pos c1] at hf
        exact hexit _ hf.symm _ _ _ hP hS (lv_sub hl [0, 1, 2, 3] rfl)
      · rw [if_neg c1] at hf
        refine lv_aload_n hx hb d_Board_strangerFits_10 rfl (lv_at hl 0 rfl) ?_
        refine lv_iload hx hb d_Board_strangerFits_11 (lv_at hl 4 rfl) ?_
        refine lv_iload_n hx hb d_Board_strangerFits_13 rfl (lv_at hl 2 rfl) ?_
        refine va_calli (va_runV (As := [.int x5_1, .int a3]) (rest := []) ⟨hx, hb, hml, hown, ht⟩ (c_Board_mustOpen l D cA ad hI H.size x5_1 a3 S (fun hn => hs (by rw [hn] at hf; exact hf.symm))) (cwV 2 ht (good_G (gV mM_Board_68 mI_Board_mustOpen mV_Board_mustOpen mN_Board mk_Board_mustOpen)) rfl rfl rfl (by decide +kernel) ⟨Nat.le_of_ble_eq_true rfl, Nat.le_of_ble_eq_true rfl⟩) ⟨fun a U g mk q => ⟨q.1, q.2.1, q.2.2.1, va_K.moved (u := U) (U := U.calling g mk a) (Vm.Alike.refl U.vm) q.2.2.2⟩, va_recv hK hP (ci := 2) (q0 := 2) rfl Xa_2, fun U hU hW => ⟨rfl, by rw [hU], by rw [hU]; exact hP, va_K.moved hW.alike hK⟩⟩ rfl rfl hl.1 rfl (lv_room (Nat.le_of_ble_eq_true rfl)) d_Board_strangerFits_14 ⟨Nat.le_of_ble_eq_true rfl, Nat.le_of_ble_eq_true rfl⟩) hS (fun q _ h => hAS _ hS.1 q h) (fun q h => hAS _ hS.1 q h) (fun r1 _ t H locs ht9 hvm hw hB hz1 hk1 hS => ?_)
        obtain ⟨hP, hK9⟩ := hB
        rw [ht9] at hP
        obtain ⟨hw, hz1⟩ := hw
        rw [hw, Option.bind_some] at hf
        refine lv_if_ne (tgt := 36) hx hb d_Board_strangerFits_17 (by decide) (fun c2 => ?_) (fun c2 => ?_)
        · rw [if_neg c2] at hf
          refine lv_iinc (v := x5_1 + 1) (lv' := [(5, .int (x5_1 + 1)), (0, .ref (ad 2)), (1, .long a1), (3, .int a3), (4, .int a4)]) hx hb d_Board_strangerFits_36 hl (k := 4) rfl rfl (by decide) rfl (fun ls hl => ?_)
          refine lv_goto (tgt := 3) hx hb d_Board_strangerFits_39 (by decide) ?_
          exact ih (x5_1 + 1) _ _ _ hP hS (lv_sub hl [1, 2, 3, 4, 0] rfl) (fun hn => hs (hf.symm.trans hn)) (fun o ho => hret o (hf.symm.trans ho)) (fun v ho => hexit v (hf.symm.trans ho))
        · rw [if_pos c2] at hf
          refine lv_aload_n hx hb d_Board_strangerFits_20 rfl (lv_at hl 0 rfl) ?_
          refine va_get (D := D) (ci := 2) (v := .ref (ad 7)) (C := R_Board) (T := T_Board) (N := 7) hx hb ht i_Board hown hK hP 2 Xa_2 rfl 5 (by decide) (ht _ mF_Board_20) (fun _ h9 => h9) rfl d_Board_strangerFits_21 ?_
          refine lv_iload hx hb d_Board_strangerFits_24 (lv_at hl 4 rfl) ?_
          by_cases b3 : oob x5_1 8
          · rw [if_pos b3] at hf; exact absurd hf.symm hs
          rw [if_neg b3] at hf
          refine va_lald (f := S.2 7) hx hb hK hP 7 1 Xa_7 rfl b3 d_Board_strangerFits_26 ?_
          refine lv_lload_n hx hb d_Board_strangerFits_27 rfl (lv_at hl 1 rfl) ?_
          refine va_calli (va_runS (As := [.long (S.2 7 x5_1.toNatClampNeg), .long a1]) (rest := []) ⟨hx, hb, hml, hown, ht⟩ (c_Board_isWithin l D cA ad hI H.size (S.2 7 x5_1.toNatClampNeg) a1 S (fun hn => hs (by rw [hn] at hf; exact hf.symm))) (va_cwS 2 ht (good_G (gS mM_Board_48 mS_Board_isWithin mN_Board mk_Board_isWithin)) rfl rfl rfl (by decide +kernel) ⟨Nat.le_of_ble_eq_true rfl, Nat.le_of_ble_eq_true rfl⟩) ⟨fun a U g mk q => ⟨q.1, q.2.1, q.2.2.1, va_K.moved (u := U) (U := U.calling g mk a) (Vm.Alike.refl U.vm) q.2.2.2⟩, fun U hU hW => ⟨rfl, by rw [hU], by rw [hU]; exact hP, va_K.moved hW.alike hK⟩⟩ rfl rfl hl.1 rfl (lv_room (Nat.le_of_ble_eq_true rfl)) d_Board_strangerFits_28 ⟨Nat.le_of_ble_eq_true rfl, Nat.le_of_ble_eq_true rfl⟩) hS (fun q _ h => hAS _ hS.1 q h) (fun q h => hAS _ hS.1 q h) (fun r2 _ t H locs ht9 hvm hw hB hz1 hk1 hS => ?_)
          obtain ⟨hP, hK9⟩ := hB
          rw [ht9] at hP
          obtain ⟨hw, hz2⟩ := hw
          rw [hw, Option.bind_some] at hf
          refine lv_if_eq (tgt := 36) hx hb d_Board_strangerFits_31 (by decide) (fun c4 => ?_) (fun c4 => ?_)
          · rw [if_pos c4] at hf
            refine lv_iinc (v := x5_1 + 1) (lv' := [(5, .int (x5_1 + 1)), (0, .ref (ad 2)), (1, .long a1), (3, .int a3), (4, .int a4)]) hx hb d_Board_strangerFits_36 hl (k := 4) rfl rfl (by decide) rfl (fun ls hl => ?_)
            refine lv_goto (tgt := 3) hx hb d_Board_strangerFits_39 (by decide) ?_
            exact ih (x5_1 + 1) _ _ _ hP hS (lv_sub hl [1, 2, 3, 4, 0] rfl) (fun hn => hs (hf.symm.trans hn)) (fun o ho => hret o (hf.symm.trans ho)) (fun v ho => hexit v (hf.symm.trans ho))
          · rw [if_neg c4] at hf
            refine lv_iconst (v := 1) hx hb d_Board_strangerFits_34 (by decide) ?_
            rw [← hQ]
            have hz : (1 : Int32) = 0 ∨ (1 : Int32) = 1 := Or.inr rfl
            exact W.zret (v := (1 : Int32)) hx hb hr (zb_n hz) (fun t ht hW => ⟨⟨(1 : Int32), (), rfl, ⟨hret _ hf.symm, hz⟩, by rw [ht]; exact hP, va_K.moved hW.alike hK⟩, hS.F ht⟩) hS.2.2 d_Board_strangerFits_35
  refine lp3_1 FU (0 : Int32) _ _ _ hP hS (lv_sub hl [1, 2, 3, 4, 0] rfl) (fun hn => ?_) (fun o ho => ?_) (fun v5 hvv5 H locs ls hP hS hl => ?_)
  · rw [hn] at hf; exact hs hf.symm
  · rw [ho, Option.bind_some, Sum.elim_inl] at hf; exact hf.symm
  · rw [hvv5, Option.bind_some, Sum.elim_inr] at hf
    refine lv_iconst (v := 0) hx hb d_Board_strangerFits_42 (by decide) ?_
    rw [← hQ]
    have hz : (0 : Int32) = 0 ∨ (0 : Int32) = 1 := Or.inl rfl
    exact W.zret (v := (0 : Int32)) hx hb hr (zb_n hz) (fun t ht hW => ⟨⟨(0 : Int32), (), rfl, ⟨hf.symm, hz⟩, by rw [ht]; exact hP, va_K.moved hW.alike hK⟩, hS.F ht⟩) hS.2.2 d_Board_strangerFits_43
set_option maxHeartbeats 4000000 in
set_option maxRecDepth 100000 in
theorem c_Board_doorAccepts (l : Launch) (D : va_G) (cA : Nat → ClassId) (ad : Nat → Nat) (hI : InjA ad) (sz : Nat) (a1 : Int32) (a2 : Int32) (S : SS) (hs : f_Board_doorAccepts a1 a2 S ≠ none) : Met l y_Board_doorAccepts w_Board_doorAccepts ({ frames := 2, cells := 0, slots := 0, locals := 48 }) (va_Pc [.ref (ad 2), .int a1, .int a2] (fun U => U.heap.size = sz ∧ va_P D vwCl (X cA ad S) U.heap ∧ va_K D vwCl (tysX cA) U)) (va_Qi (fun (r : Int32) (u : SS) => f_Board_doorAccepts a1 a2 S = some (r, u) ∧ (r = 0 ∨ r = 1)) (fun (u : SS) t => va_P D vwCl (X cA ad u) t.heap ∧ va_K D vwCl (tysX cA) t) (AS ad sz)) 0 0 (AS ad sz) := by
  refine Met.ofW (cc := b_Board_doorAccepts) (maxL := 7) (ret := (some .boolean)) (by decide) rfl ?_
  intro p e s m args below meth c s₁ B hml hv
  obtain ⟨rfl, hsz, hP, hK⟩ := hv
  have hx := B.exec
  have hb := B.bytes
  have hr := B.returns
  have hts := atoms_spec (ws := w_Board_doorAccepts) B.pre
  have ht := fun w h => hts w (List.mem_cons_of_mem _ h)
  have hown : s.vm.findClass R_Board = some m.cls := findClass_of_methodNamed B.named
  have hlocks := B.notSynchronized
  subst hsz
  have hAd : ∀ q, q < NP → AS ad s.heap.size (ad q) := fun q h => Or.inl ⟨q, h, rfl⟩
  have hA : ∀ q : Nat, s.heap.size ≤ q → AS ad s.heap.size q := fun q h => Or.inr h
  have hAS : ∀ z : Nat, s.heap.size ≤ z → ∀ q : Nat, AS ad z q → AS ad s.heap.size q := fun z h q hq => hq.elim Or.inl (fun g => Or.inr (Nat.le_trans h g))
  generalize hAe : AS ad s.heap.size = A at hAd hA hAS ⊢
  have hS : va_S A s.heap s.heap [] := va_S.rf
  have hl := lv_entry ([.ref (ad 2), .int a1, .int a2]) (n := 7) (Nat.le_of_ble_eq_true rfl)
  rw [lg_entry_eq]
  generalize (lg_sl ([.ref (ad 2), .int a1, .int a2]) ++ List.replicate (7 - (lg_sl ([.ref (ad 2), .int a1, .int a2])).length) Slot.unset).toArray = ls at hl ⊢
  have hl : lv_has ls 7 [(0, .ref (ad 2)), (1, .int a1), (2, .int a2)] := hl
  have hf := (f_Board_doorAccepts_s a1 a2 S).symm
  generalize hQ : MQ below _ _ s _ _ _ = Q
  refine lv_aload_n hx hb d_Board_doorAccepts_0 rfl (lv_at hl 0 rfl) ?_
  refine va_get (D := D) (ci := 2) (v := .ref (ad 7)) (C := R_Board) (T := T_Board) (N := 7) hx hb ht i_Board hown hK hP 2 Xa_2 rfl 5 (by decide) (ht _ mF_Board_20) (fun _ h9 => h9) rfl d_Board_doorAccepts_1 ?_
  refine lv_iload_n hx hb d_Board_doorAccepts_4 rfl (lv_at hl 2 rfl) ?_
  by_cases b1 : oob a2 8
  · rw [if_pos b1] at hf; exact absurd hf.symm hs
  rw [if_neg b1] at hf
  refine va_lald (f := S.2 7) hx hb hK hP 7 1 Xa_7 rfl b1 d_Board_doorAccepts_5 ?_
  refine lv_lstore_n (lv' := [(3, .long (S.2 7 a2.toNatClampNeg)), (0, .ref (ad 2)), (1, .int a1), (2, .int a2)]) hx hb d_Board_doorAccepts_6 rfl hl (by decide) rfl (fun ls hl => ?_)
  refine lv_aload_n hx hb d_Board_doorAccepts_7 rfl (lv_at hl 1 rfl) ?_
  refine va_get (D := D) (ci := 2) (v := .ref (ad 8)) (C := R_Board) (T := T_Board) (N := 7) hx hb ht i_Board hown hK hP 2 Xa_2 rfl 6 (by decide) (ht _ mF_Board_26) (fun _ h9 => h9) rfl d_Board_doorAccepts_8 ?_
  refine lv_iload_n hx hb d_Board_doorAccepts_11 rfl (lv_at hl 3 rfl) ?_
  by_cases b2 : oob a2 9
  · rw [if_pos b2] at hf; exact absurd hf.symm hs
  rw [if_neg b2] at hf
  refine gz_aald hx hb hK hP 8 3 Xa_8 rfl b2 d_Board_doorAccepts_12 ?_
  rw [X_row b2]
  refine lv_iload_n hx hb d_Board_doorAccepts_13 rfl (lv_at hl 2 rfl) ?_
  by_cases b3 : oob a1 6
  · rw [if_pos b3] at hf; exact absurd hf.symm hs
  rw [if_neg b3] at hf
  refine va_lald (f := S.2 (18 + a2.toNatClampNeg)) hx hb hK hP (18 + a2.toNatClampNeg) 1 (X_rowat8 b2) rfl b3 d_Board_doorAccepts_14 ?_
  refine lv_lstore (lv' := [(5, .long (S.2 (18 + a2.toNatClampNeg) a1.toNatClampNeg)), (3, .long (S.2 7 a2.toNatClampNeg)), (0, .ref (ad 2)), (1, .int a1), (2, .int a2)]) hx hb d_Board_doorAccepts_15 hl (by decide) rfl (fun ls hl => ?_)
  refine lv_aload_n hx hb d_Board_doorAccepts_17 rfl (lv_at hl 2 rfl) ?_
  refine lv_iload_n hx hb d_Board_doorAccepts_18 rfl (lv_at hl 4 rfl) ?_
  refine lv_iload_n hx hb d_Board_doorAccepts_19 rfl (lv_at hl 3 rfl) ?_
  refine va_calli (va_runV (As := [.int a2, .int a1]) (rest := []) ⟨hx, hb, hml, hown, ht⟩ (c_Board_mustOpen l D cA ad hI s.heap.size a2 a1 S (fun hn => hs (by rw [hn] at hf; exact hf.symm))) (cwV 2 ht (good_G (gV mM_Board_68 mI_Board_mustOpen mV_Board_mustOpen mN_Board mk_Board_mustOpen)) rfl rfl rfl (by decide +kernel) ⟨Nat.le_of_ble_eq_true rfl, Nat.le_of_ble_eq_true rfl⟩) ⟨fun a U g mk q => ⟨q.1, q.2.1, q.2.2.1, va_K.moved (u := U) (U := U.calling g mk a) (Vm.Alike.refl U.vm) q.2.2.2⟩, va_recv hK hP (ci := 2) (q0 := 2) rfl Xa_2, fun U hU hW => ⟨rfl, by rw [hU], by rw [hU]; exact hP, va_K.moved hW.alike hK⟩⟩ rfl rfl hl.1 rfl (lv_room (Nat.le_of_ble_eq_true rfl)) d_Board_doorAccepts_20 ⟨Nat.le_of_ble_eq_true rfl, Nat.le_of_ble_eq_true rfl⟩) hS (fun q _ h => hAS _ hS.1 q h) (fun q h => hAS _ hS.1 q h) (fun r1 _ t H locs ht9 hvm hw hB hz1 hk1 hS => ?_)
  obtain ⟨hP, hK9⟩ := hB
  rw [ht9] at hP
  obtain ⟨hw, hz1⟩ := hw
  rw [hw, Option.bind_some] at hf
  refine lv_if_eq (tgt := 54) hx hb d_Board_doorAccepts_23 (by decide) (fun c4 => ?_) (fun c4 => ?_)
  · rw [if_pos c4] at hf
    refine lv_lload_n hx hb d_Board_doorAccepts_54 rfl (lv_at hl 1 rfl) ?_
    refine lv_lload hx hb d_Board_doorAccepts_55 (lv_at hl 0 rfl) ?_
    refine va_calli (va_runS (As := [.long (S.2 7 a2.toNatClampNeg), .long (S.2 (18 + a2.toNatClampNeg) a1.toNatClampNeg)]) (rest := []) ⟨hx, hb, hml, hown, ht⟩ (c_Board_isWithin l D cA ad hI H.size (S.2 7 a2.toNatClampNeg) (S.2 (18 + a2.toNatClampNeg) a1.toNatClampNeg) S (fun hn => hs (by rw [hn] at hf; exact hf.symm))) (va_cwS 2 ht (good_G (gS mM_Board_48 mS_Board_isWithin mN_Board mk_Board_isWithin)) rfl rfl rfl (by decide +kernel) ⟨Nat.le_of_ble_eq_true rfl, Nat.le_of_ble_eq_true rfl⟩) ⟨fun a U g mk q => ⟨q.1, q.2.1, q.2.2.1, va_K.moved (u := U) (U := U.calling g mk a) (Vm.Alike.refl U.vm) q.2.2.2⟩, fun U hU hW => ⟨rfl, by rw [hU], by rw [hU]; exact hP, va_K.moved hW.alike hK⟩⟩ rfl rfl hl.1 rfl (lv_room (Nat.le_of_ble_eq_true rfl)) d_Board_doorAccepts_57 ⟨Nat.le_of_ble_eq_true rfl, Nat.le_of_ble_eq_true rfl⟩) hS (fun q _ h => hAS _ hS.1 q h) (fun q h => hAS _ hS.1 q h) (fun r2 _ t H locs ht9 hvm hw hB hz1 hk1 hS => ?_)
    obtain ⟨hP, hK9⟩ := hB
    rw [ht9] at hP
    obtain ⟨hw, hz2⟩ := hw
    rw [hw, Option.bind_some] at hf
    refine lv_if_eq (tgt := 65) hx hb d_Board_doorAccepts_60 (by decide) (fun c5 => ?_) (fun c5 => ?_)
    · rw [if_pos c5] at hf
      refine lv_aload_n hx hb d_Board_doorAccepts_65 rfl (lv_at hl 2 rfl) ?_
      refine va_get (D := D) (ci := 2) (v := .ref (ad 8)) (C := R_Board) (T := T_Board) (N := 7) hx hb ht i_Board hown hK hP 2 Xa_2 rfl 6 (by decide) (ht _ mF_Board_26) (fun _ h9 => h9) rfl d_Board_doorAccepts_66 ?_
      refine lv_iload_n hx hb d_Board_doorAccepts_69 rfl (lv_at hl 4 rfl) ?_
      refine lv_iconst (v := 1) hx hb d_Board_doorAccepts_70 (by decide) ?_
      refine lv_iadd hx hb d_Board_doorAccepts_71 ?_
      by_cases b6 : oob (a2 + (1 : Int32)) 9
      · rw [if_pos b6] at hf; exact absurd hf.symm hs
      rw [if_neg b6] at hf
      refine gz_aald hx hb hK hP 8 3 Xa_8 rfl b6 d_Board_doorAccepts_72 ?_
      rw [X_row b6]
      refine lv_iload_n hx hb d_Board_doorAccepts_73 rfl (lv_at hl 3 rfl) ?_
      refine lv_lload hx hb d_Board_doorAccepts_74 (lv_at hl 0 rfl) ?_
      refine va_last hx hb hK hP (X_D hI hAd) hS (18 + (a2 + (1 : Int32)).toNatClampNeg) 1 (X_rowat8 b6) rfl b3 d_Board_doorAccepts_76 (fun H locs hP _ hS => ?_)
      replace hP := X_stL (X_rowlt8 b6) (X_rowcell8 b6) hP
      refine lv_iconst (v := 1) hx hb d_Board_doorAccepts_77 (by decide) ?_
      rw [← hQ]
      have hz : (1 : Int32) = 0 ∨ (1 : Int32) = 1 := Or.inr rfl
      exact W.zret (v := (1 : Int32)) hx hb hr (zb_n hz) (fun t ht hW => ⟨⟨(1 : Int32), wL S (18 + (a2 + (1 : Int32)).toNatClampNeg) a1.toNatClampNeg (S.2 (18 + a2.toNatClampNeg) a1.toNatClampNeg), rfl, ⟨hf.symm, hz⟩, by rw [ht]; exact hP, va_K.moved hW.alike hK⟩, hS.F ht⟩) hS.2.2 d_Board_doorAccepts_78
    · rw [if_neg c5] at hf
      refine lv_iconst (v := 0) hx hb d_Board_doorAccepts_63 (by decide) ?_
      rw [← hQ]
      have hz : (0 : Int32) = 0 ∨ (0 : Int32) = 1 := Or.inl rfl
      exact W.zret (v := (0 : Int32)) hx hb hr (zb_n hz) (fun t ht hW => ⟨⟨(0 : Int32), S, rfl, ⟨hf.symm, hz⟩, by rw [ht]; exact hP, va_K.moved hW.alike hK⟩, hS.F ht⟩) hS.2.2 d_Board_doorAccepts_64
  · rw [if_neg c4] at hf
    refine lv_lload hx hb d_Board_doorAccepts_26 (lv_at hl 0 rfl) ?_
    refine lv_lload_n hx hb d_Board_doorAccepts_28 rfl (lv_at hl 1 rfl) ?_
    refine lv_lor hx hb d_Board_doorAccepts_29 ?_
    refine lv_lstore (lv' := [(5, .long ((S.2 (18 + a2.toNatClampNeg) a1.toNatClampNeg) ||| (S.2 7 a2.toNatClampNeg))), (3, .long (S.2 7 a2.toNatClampNeg)), (0, .ref (ad 2)), (1, .int a1), (2, .int a2)]) hx hb d_Board_doorAccepts_30 hl (by decide) rfl (fun ls hl => ?_)
    refine lv_aload_n hx hb d_Board_doorAccepts_32 rfl (lv_at hl 2 rfl) ?_
    refine lv_lload hx hb d_Board_doorAccepts_33 (lv_at hl 0 rfl) ?_
    refine va_calli (va_runV (As := [.long ((S.2 (18 + a2.toNatClampNeg) a1.toNatClampNeg) ||| (S.2 7 a2.toNatClampNeg))]) (rest := []) ⟨hx, hb, hml, hown, ht⟩ (c_Board_isAboveTop l D cA ad hI H.size ((S.2 (18 + a2.toNatClampNeg) a1.toNatClampNeg) ||| (S.2 7 a2.toNatClampNeg)) S (fun hn => hs (by rw [hn] at hf; exact hf.symm))) (cwV 1 ht (good_G (gV mM_Board_71 mI_Board_isAboveTop mV_Board_isAboveTop mN_Board mk_Board_isAboveTop)) rfl rfl rfl (by decide +kernel) ⟨Nat.le_of_ble_eq_true rfl, Nat.le_of_ble_eq_true rfl⟩) ⟨fun a U g mk q => ⟨q.1, q.2.1, q.2.2.1, va_K.moved (u := U) (U := U.calling g mk a) (Vm.Alike.refl U.vm) q.2.2.2⟩, va_recv hK hP (ci := 2) (q0 := 2) rfl Xa_2, fun U hU hW => ⟨rfl, by rw [hU], by rw [hU]; exact hP, va_K.moved hW.alike hK⟩⟩ rfl rfl hl.1 rfl (lv_room (Nat.le_of_ble_eq_true rfl)) d_Board_doorAccepts_35 ⟨Nat.le_of_ble_eq_true rfl, Nat.le_of_ble_eq_true rfl⟩) hS (fun q _ h => hAS _ hS.1 q h) (fun q h => hAS _ hS.1 q h) (fun r3 _ t H locs ht9 hvm hw hB hz1 hk1 hS => ?_)
    obtain ⟨hP, hK9⟩ := hB
    rw [ht9] at hP
    obtain ⟨hw, hz3⟩ := hw
    rw [hw, Option.bind_some] at hf
    refine lv_if_ne (tgt := 52) hx hb d_Board_doorAccepts_38 (by decide) (fun c7 => ?_) (fun c7 => ?_)
    · rw [if_neg c7] at hf
      refine lv_iconst (v := 0) hx hb d_Board_doorAccepts_52 (by decide) ?_
      rw [← hQ]
      have hz : (0 : Int32) = 0 ∨ (0 : Int32) = 1 := Or.inl rfl
      exact W.zret (v := (0 : Int32)) hx hb hr (zb_n hz) (fun t ht hW => ⟨⟨(0 : Int32), S, rfl, ⟨hf.symm, hz⟩, by rw [ht]; exact hP, va_K.moved hW.alike hK⟩, hS.F ht⟩) hS.2.2 d_Board_doorAccepts_53
    · rw [if_pos c7] at hf
      refine lv_aload_n hx hb d_Board_doorAccepts_41 rfl (lv_at hl 2 rfl) ?_
      refine lv_lload hx hb d_Board_doorAccepts_42 (lv_at hl 0 rfl) ?_
      refine lv_iload_n hx hb d_Board_doorAccepts_44 rfl (lv_at hl 3 rfl) ?_
      refine lv_iload_n hx hb d_Board_doorAccepts_45 rfl (lv_at hl 4 rfl) ?_
      refine va_calli (va_runV (As := [.long ((S.2 (18 + a2.toNatClampNeg) a1.toNatClampNeg) ||| (S.2 7 a2.toNatClampNeg)), .int a1, .int a2]) (rest := []) ⟨hx, hb, hml, hown, ht⟩ (c_Board_strangerFits l D cA ad hI H.size ((S.2 (18 + a2.toNatClampNeg) a1.toNatClampNeg) ||| (S.2 7 a2.toNatClampNeg)) a1 a2 S (fun hn => hs (by rw [hn] at hf; exact hf.symm))) (cwV 3 ht (good_G (gV mM_Board_75 mI_Board_strangerFits mV_Board_strangerFits mN_Board mk_Board_strangerFits)) rfl rfl rfl (by decide +kernel) ⟨Nat.le_of_ble_eq_true rfl, Nat.le_of_ble_eq_true rfl⟩) ⟨fun a U g mk q => ⟨q.1, q.2.1, q.2.2.1, va_K.moved (u := U) (U := U.calling g mk a) (Vm.Alike.refl U.vm) q.2.2.2⟩, va_recv hK hP (ci := 2) (q0 := 2) rfl Xa_2, fun U hU hW => ⟨rfl, by rw [hU], by rw [hU]; exact hP, va_K.moved hW.alike hK⟩⟩ rfl rfl hl.1 rfl (lv_room (Nat.le_of_ble_eq_true rfl)) d_Board_doorAccepts_46 ⟨Nat.le_of_ble_eq_true rfl, Nat.le_of_ble_eq_true rfl⟩) hS (fun q _ h => hAS _ hS.1 q h) (fun q h => hAS _ hS.1 q h) (fun r4 _ t H locs ht9 hvm hw hB hz1 hk1 hS => ?_)
      obtain ⟨hP, hK9⟩ := hB
      rw [ht9] at hP
      obtain ⟨hw, hz4⟩ := hw
      rw [hw, Option.bind_some] at hf
      refine lv_if_eq (tgt := 65) hx hb d_Board_doorAccepts_49 (by decide) (fun c8 => ?_) (fun c8 => ?_)
      · rw [if_pos c8] at hf
        refine lv_aload_n hx hb d_Board_doorAccepts_65 rfl (lv_at hl 2 rfl) ?_
        refine va_get (D := D) (ci := 2) (v := .ref (ad 8)) (C := R_Board) (T := T_Board) (N := 7) hx hb ht i_Board hown hK hP 2 Xa_2 rfl 6 (by decide) (ht _ mF_Board_26) (fun _ h9 => h9) rfl d_Board_doorAccepts_66 ?_
        refine lv_iload_n hx hb d_Board_doorAccepts_69 rfl (lv_at hl 4 rfl) ?_
        refine lv_iconst (v := 1) hx hb d_Board_doorAccepts_70 (by decide) ?_
        refine lv_iadd hx hb d_Board_doorAccepts_71 ?_
        by_cases b9 : oob (a2 + (1 : Int32)) 9
        · rw [if_pos b9] at hf; exact absurd hf.symm hs
        rw [if_neg b9] at hf
        refine gz_aald hx hb hK hP 8 3 Xa_8 rfl b9 d_Board_doorAccepts_72 ?_
        rw [X_row b9]
        refine lv_iload_n hx hb d_Board_doorAccepts_73 rfl (lv_at hl 3 rfl) ?_
        refine lv_lload hx hb d_Board_doorAccepts_74 (lv_at hl 0 rfl) ?_
        refine va_last hx hb hK hP (X_D hI hAd) hS (18 + (a2 + (1 : Int32)).toNatClampNeg) 1 (X_rowat8 b9) rfl b3 d_Board_doorAccepts_76 (fun H locs hP _ hS => ?_)
        replace hP := X_stL (X_rowlt8 b9) (X_rowcell8 b9) hP
        refine lv_iconst (v := 1) hx hb d_Board_doorAccepts_77 (by decide) ?_
        rw [← hQ]
        have hz : (1 : Int32) = 0 ∨ (1 : Int32) = 1 := Or.inr rfl
        exact W.zret (v := (1 : Int32)) hx hb hr (zb_n hz) (fun t ht hW => ⟨⟨(1 : Int32), wL S (18 + (a2 + (1 : Int32)).toNatClampNeg) a1.toNatClampNeg ((S.2 (18 + a2.toNatClampNeg) a1.toNatClampNeg) ||| (S.2 7 a2.toNatClampNeg)), rfl, ⟨hf.symm, hz⟩, by rw [ht]; exact hP, va_K.moved hW.alike hK⟩, hS.F ht⟩) hS.2.2 d_Board_doorAccepts_78
      · rw [if_neg c8] at hf
        refine lv_iconst (v := 0) hx hb d_Board_doorAccepts_52 (by decide) ?_
        rw [← hQ]
        have hz : (0 : Int32) = 0 ∨ (0 : Int32) = 1 := Or.inl rfl
        exact W.zret (v := (0 : Int32)) hx hb hr (zb_n hz) (fun t ht hW => ⟨⟨(0 : Int32), S, rfl, ⟨hf.symm, hz⟩, by rw [ht]; exact hP, va_K.moved hW.alike hK⟩, hS.F ht⟩) hS.2.2 d_Board_doorAccepts_53
set_option maxHeartbeats 4000000 in
set_option maxRecDepth 100000 in
theorem c_Board_accepts (l : Launch) (D : va_G) (cA : Nat → ClassId) (ad : Nat → Nat) (hI : InjA ad) (sz : Nat) (a1 : Int32) (S : SS) (hs : f_Board_accepts a1 S ≠ none) : Met l y_Board_accepts w_Board_accepts ({ frames := 3, cells := 0, slots := 0, locals := 74 }) (va_Pc [.ref (ad 2), .int a1] (fun U => U.heap.size = sz ∧ va_P D vwCl (X cA ad S) U.heap ∧ va_K D vwCl (tysX cA) U)) (va_Qi (fun (r : Int32) (u : SS) => f_Board_accepts a1 S = some (r, u) ∧ (r = 0 ∨ r = 1)) (fun (u : SS) t => va_P D vwCl (X cA ad u) t.heap ∧ va_K D vwCl (tysX cA) t) (AS ad sz)) 0 0 (AS ad sz) := by
  refine Met.ofW (cc := b_Board_accepts) (maxL := 5) (ret := (some .boolean)) (by decide) rfl ?_
  intro p e s m args below meth c s₁ B hml hv
  obtain ⟨rfl, hsz, hP, hK⟩ := hv
  have hx := B.exec
  have hb := B.bytes
  have hr := B.returns
  have hts := atoms_spec (ws := w_Board_accepts) B.pre
  have ht := fun w h => hts w (List.mem_cons_of_mem _ h)
  have hown : s.vm.findClass R_Board = some m.cls := findClass_of_methodNamed B.named
  have hlocks := B.notSynchronized
  subst hsz
  have hAd : ∀ q, q < NP → AS ad s.heap.size (ad q) := fun q h => Or.inl ⟨q, h, rfl⟩
  have hA : ∀ q : Nat, s.heap.size ≤ q → AS ad s.heap.size q := fun q h => Or.inr h
  have hAS : ∀ z : Nat, s.heap.size ≤ z → ∀ q : Nat, AS ad z q → AS ad s.heap.size q := fun z h q hq => hq.elim Or.inl (fun g => Or.inr (Nat.le_trans h g))
  generalize hAe : AS ad s.heap.size = A at hAd hA hAS ⊢
  have hS : va_S A s.heap s.heap [] := va_S.rf
  have hl := lv_entry ([.ref (ad 2), .int a1]) (n := 5) (Nat.le_of_ble_eq_true rfl)
  rw [lg_entry_eq]
  generalize (lg_sl ([.ref (ad 2), .int a1]) ++ List.replicate (5 - (lg_sl ([.ref (ad 2), .int a1])).length) Slot.unset).toArray = ls at hl ⊢
  have hl : lv_has ls 5 [(0, .ref (ad 2)), (1, .int a1)] := hl
  have hf := (f_Board_accepts_s a1 S).symm
  generalize hQ : MQ below _ _ s _ _ _ = Q
  refine lv_aload_n hx hb d_Board_accepts_0 rfl (lv_at hl 0 rfl) ?_
  refine lv_iload_n hx hb d_Board_accepts_1 rfl (lv_at hl 1 rfl) ?_
  refine va_calll (va_runV (As := [.int a1]) (rest := []) ⟨hx, hb, hml, hown, ht⟩ (c_Board_rowFromCuts l D cA ad hI s.heap.size a1 S (fun hn => hs (by rw [hn] at hf; exact hf.symm))) (cwV 1 ht (good_G (gV mM_Board_56 mI_Board_rowFromCuts mV_Board_rowFromCuts mN_Board mk_Board_rowFromCuts)) rfl rfl rfl (by decide +kernel) ⟨Nat.le_of_ble_eq_true rfl, Nat.le_of_ble_eq_true rfl⟩) ⟨fun a U g mk q => ⟨q.1, q.2.1, q.2.2.1, va_K.moved (u := U) (U := U.calling g mk a) (Vm.Alike.refl U.vm) q.2.2.2⟩, va_recv hK hP (ci := 2) (q0 := 2) rfl Xa_2, fun U hU hW => ⟨rfl, by rw [hU], by rw [hU]; exact hP, va_K.moved hW.alike hK⟩⟩ rfl rfl hl.1 rfl (lv_room (Nat.le_of_ble_eq_true rfl)) d_Board_accepts_2 ⟨Nat.le_of_ble_eq_true rfl, Nat.le_of_ble_eq_true rfl⟩) hS (fun q _ h => hAS _ hS.1 q h) (fun q h => hAS _ hS.1 q h) (fun r1 _ t H locs ht9 hvm hw hB hz1 hk1 hS => ?_)
  obtain ⟨hP, hK9⟩ := hB
  rw [ht9] at hP
  rw [hw, Option.bind_some] at hf
  refine lv_lstore_n (lv' := [(2, .long r1), (0, .ref (ad 2)), (1, .int a1)]) hx hb d_Board_accepts_5 rfl hl (by decide) rfl (fun ls hl => ?_)
  refine lv_aload_n hx hb d_Board_accepts_6 rfl (lv_at hl 1 rfl) ?_
  refine lv_lload_n hx hb d_Board_accepts_7 rfl (lv_at hl 0 rfl) ?_
  refine lv_iload_n hx hb d_Board_accepts_8 rfl (lv_at hl 2 rfl) ?_
  refine va_calli (va_runV (As := [.long r1, .int a1]) (rest := []) ⟨hx, hb, hml, hown, ht⟩ (c_Board_isTaken l D cA ad hI H.size r1 a1 S (fun hn => hs (by rw [hn] at hf; exact hf.symm))) (cwV 2 ht (good_G (gV mM_Board_60 mI_Board_isTaken mV_Board_isTaken mN_Board mk_Board_isTaken)) rfl rfl rfl (by decide +kernel) ⟨Nat.le_of_ble_eq_true rfl, Nat.le_of_ble_eq_true rfl⟩) ⟨fun a U g mk q => ⟨q.1, q.2.1, q.2.2.1, va_K.moved (u := U) (U := U.calling g mk a) (Vm.Alike.refl U.vm) q.2.2.2⟩, va_recv hK hP (ci := 2) (q0 := 2) rfl Xa_2, fun U hU hW => ⟨rfl, by rw [hU], by rw [hU]; exact hP, va_K.moved hW.alike hK⟩⟩ rfl rfl hl.1 rfl (lv_room (Nat.le_of_ble_eq_true rfl)) d_Board_accepts_9 ⟨Nat.le_of_ble_eq_true rfl, Nat.le_of_ble_eq_true rfl⟩) hS (fun q _ h => hAS _ hS.1 q h) (fun q h => hAS _ hS.1 q h) (fun r2 _ t H locs ht9 hvm hw hB hz1 hk1 hS => ?_)
  obtain ⟨hP, hK9⟩ := hB
  rw [ht9] at hP
  obtain ⟨hw, hz2⟩ := hw
  rw [hw, Option.bind_some] at hf
  refine lv_if_eq (tgt := 17) hx hb d_Board_accepts_12 (by decide) (fun c1 => ?_) (fun c1 => ?_)
  · rw [if_pos c1] at hf
    refine lv_aload_n hx hb d_Board_accepts_17 rfl (lv_at hl 1 rfl) ?_
    refine va_get (D := D) (ci := 2) (v := .ref (ad 7)) (C := R_Board) (T := T_Board) (N := 7) hx hb ht i_Board hown hK hP 2 Xa_2 rfl 5 (by decide) (ht _ mF_Board_20) (fun _ h9 => h9) rfl d_Board_accepts_18 ?_
    refine lv_iload_n hx hb d_Board_accepts_21 rfl (lv_at hl 2 rfl) ?_
    refine lv_lload_n hx hb d_Board_accepts_22 rfl (lv_at hl 0 rfl) ?_
    by_cases b2 : oob a1 8
    · rw [if_pos b2] at hf; exact absurd hf.symm hs
    rw [if_neg b2] at hf
    refine va_last hx hb hK hP (X_D hI hAd) hS 7 1 Xa_7 rfl b2 d_Board_accepts_23 (fun H locs hP _ hS => ?_)
    replace hP := X_stL (by decide) Xc_7 hP
    refine lv_iconst (v := 0) hx hb d_Board_accepts_24 (by decide) ?_
    refine lv_istore (lv' := [(4, .int (0 : Int32)), (2, .long r1), (0, .ref (ad 2)), (1, .int a1)]) hx hb d_Board_accepts_25 hl (by decide) rfl (fun ls hl => ?_)
    have lp27_1 : ∀ (n : Nat) (x4_1 : Int32) (Sx : SS) (H : Heap) (locs : List Loc) (ls : Array Slot), va_P D vwCl (X cA ad Sx) H → va_S A s.heap H locs → lv_has ls 5 [(0, .ref (ad 2)), (1, .int a1), (4, .int x4_1)] → f_Board_accepts_L27 a1 n x4_1 Sx ≠ none →
        (∀ o : Int32 × SS, f_Board_accepts_L27 a1 n x4_1 Sx = some (.inl o) → f_Board_accepts a1 S = some o) →
        (∀ v : SS, f_Board_accepts_L27 a1 n x4_1 Sx = some (.inr v) → ∀ (H : Heap) (locs : List Loc) (ls : Array Slot), va_P D vwCl (X cA ad v) H → va_S A s.heap H locs → lv_has ls 5 [(0, .ref (ad 2)), (1, .int a1)] → W p l e (headSpec w_Board_accepts ({ frames := 3, cells := 0, slots := 0, locals := 74 })).room s m ([.ref (ad 2), .int a1] : List Value).toArray below meth c H locs 0 0 Q (F0 m 54 ls [])) →
        W p l e (headSpec w_Board_accepts ({ frames := 3, cells := 0, slots := 0, locals := 74 })).room s m ([.ref (ad 2), .int a1] : List Value).toArray below meth c H locs 0 0 Q (F0 m 27 ls []) := by
      intro n
      induction n with
      | zero => intro x4_1 Sx H locs ls hP hS hl hs; exact absurd rfl hs
      | succ n ih =>
        intro x4_1 Sx H locs ls hP hS hl hs hret hexit
        have hf := (f_Board_accepts_L27_s a1 n x4_1 Sx).symm
        refine lv_iload hx hb d_Board_accepts_27 (lv_at hl 2 rfl) ?_
        refine lv_aload_n hx hb d_Board_accepts_29 rfl (lv_at hl 0 rfl) ?_
        refine va_get (D := D) (ci := 2) (v := .int (Sx.1 2 2)) (C := R_Board) (T := T_Board) (N := 7) hx hb ht i_Board hown hK hP 2 Xa_2 rfl 2 (by decide) (ht _ mF_Board_33) (fun _ h9 => h9) rfl d_Board_accepts_30 ?_
        refine lv_icmp_ge (tgt := 54) hx hb d_Board_accepts_33 (by decide) (fun c3 => ?_) (fun c3 => ?_)
        · rw [if_pos c3] at hf
          exact hexit _ hf.symm _ _ _ hP hS (lv_sub hl [0, 1] rfl)
        · rw [if_neg c3] at hf
          refine lv_aload_n hx hb d_Board_accepts_36 rfl (lv_at hl 0 rfl) ?_
          refine lv_iload hx hb d_Board_accepts_37 (lv_at hl 2 rfl) ?_
          refine lv_iload_n hx hb d_Board_accepts_39 rfl (lv_at hl 1 rfl) ?_
          refine va_calli (va_runV (As := [.int x4_1, .int a1]) (rest := []) ⟨hx, hb, hml, hown, ht⟩ (c_Board_doorAccepts l D cA ad hI H.size x4_1 a1 Sx (fun hn => hs (by rw [hn] at hf; exact hf.symm))) (cwV 2 ht (good_G (gV mM_Board_64 mI_Board_doorAccepts mV_Board_doorAccepts mN_Board mk_Board_doorAccepts)) rfl rfl rfl (by decide +kernel) ⟨Nat.le_of_ble_eq_true rfl, Nat.le_of_ble_eq_true rfl⟩) ⟨fun a U g mk q => ⟨q.1, q.2.1, q.2.2.1, va_K.moved (u := U) (U := U.calling g mk a) (Vm.Alike.refl U.vm) q.2.2.2⟩, va_recv hK hP (ci := 2) (q0 := 2) rfl Xa_2, fun U hU hW => ⟨rfl, by rw [hU], by rw [hU]; exact hP, va_K.moved hW.alike hK⟩⟩ rfl rfl hl.1 rfl (lv_room (Nat.le_of_ble_eq_true rfl)) d_Board_accepts_40 ⟨Nat.le_of_ble_eq_true rfl, Nat.le_of_ble_eq_true rfl⟩) hS (fun q _ h => hAS _ hS.1 q h) (fun q h => hAS _ hS.1 q h) (fun r3 u3 t H locs ht9 hvm hw hB hz1 hk1 hS => ?_)
          obtain ⟨hP, hK9⟩ := hB
          rw [ht9] at hP
          obtain ⟨hw, hz3⟩ := hw
          rw [hw, Option.bind_some] at hf
          dsimp only at hf
          refine lv_if_ne (tgt := 48) hx hb d_Board_accepts_43 (by decide) (fun c4 => ?_) (fun c4 => ?_)
          · rw [if_neg c4] at hf
            refine lv_iinc (v := x4_1 + 1) (lv' := [(4, .int (x4_1 + 1)), (0, .ref (ad 2)), (1, .int a1)]) hx hb d_Board_accepts_48 hl (k := 2) rfl rfl (by decide) rfl (fun ls hl => ?_)
            refine lv_goto (tgt := 27) hx hb d_Board_accepts_51 (by decide) ?_
            exact ih (x4_1 + 1) u3 _ _ _ hP hS (lv_sub hl [1, 2, 0] rfl) (fun hn => hs (hf.symm.trans hn)) (fun o ho => hret o (hf.symm.trans ho)) (fun v ho => hexit v (hf.symm.trans ho))
          · rw [if_pos c4] at hf
            refine lv_iconst (v := 0) hx hb d_Board_accepts_46 (by decide) ?_
            rw [← hQ]
            have hz : (0 : Int32) = 0 ∨ (0 : Int32) = 1 := Or.inl rfl
            exact W.zret (v := (0 : Int32)) hx hb hr (zb_n hz) (fun t ht hW => ⟨⟨(0 : Int32), u3, rfl, ⟨hret _ hf.symm, hz⟩, by rw [ht]; exact hP, va_K.moved hW.alike hK⟩, hS.F ht⟩) hS.2.2 d_Board_accepts_47
    refine lp27_1 FU (0 : Int32) (wL S 7 a1.toNatClampNeg r1) _ _ _ hP hS (lv_sub hl [2, 3, 0] rfl) (fun hn => ?_) (fun o ho => ?_) (fun v5 hvv5 H locs ls hP hS hl => ?_)
    · rw [hn] at hf; exact hs hf.symm
    · rw [ho, Option.bind_some, Sum.elim_inl] at hf; exact hf.symm
    · rw [hvv5, Option.bind_some, Sum.elim_inr] at hf
      refine lv_iconst (v := 1) hx hb d_Board_accepts_54 (by decide) ?_
      rw [← hQ]
      have hz : (1 : Int32) = 0 ∨ (1 : Int32) = 1 := Or.inr rfl
      exact W.zret (v := (1 : Int32)) hx hb hr (zb_n hz) (fun t ht hW => ⟨⟨(1 : Int32), v5, rfl, ⟨hf.symm, hz⟩, by rw [ht]; exact hP, va_K.moved hW.alike hK⟩, hS.F ht⟩) hS.2.2 d_Board_accepts_55
  · rw [if_neg c1] at hf
    refine lv_iconst (v := 0) hx hb d_Board_accepts_15 (by decide) ?_
    rw [← hQ]
    have hz : (0 : Int32) = 0 ∨ (0 : Int32) = 1 := Or.inl rfl
    exact W.zret (v := (0 : Int32)) hx hb hr (zb_n hz) (fun t ht hW => ⟨⟨(0 : Int32), S, rfl, ⟨hf.symm, hz⟩, by rw [ht]; exact hP, va_K.moved hW.alike hK⟩, hS.F ht⟩) hS.2.2 d_Board_accepts_16
set_option maxHeartbeats 4000000 in
set_option maxRecDepth 100000 in
theorem c_Board_doorsHolding (l : Launch) (D : va_G) (cA : Nat → ClassId) (ad : Nat → Nat) (hI : InjA ad) (sz : Nat) (a1 : Int32) (a2 : Int32) (S : SS) (hs : f_Board_doorsHolding a1 a2 S ≠ none) : Met l y_Board_doorsHolding w_Board_doorsHolding ({ frames := 2, cells := 0, slots := 0, locals := 47 }) (va_Pc [.ref (ad 2), .int a1, .int a2] (fun U => U.heap.size = sz ∧ va_P D vwCl (X cA ad S) U.heap ∧ va_K D vwCl (tysX cA) U)) (va_Qi (fun (r : Int32) (_ : Unit) => f_Board_doorsHolding a1 a2 S = some r) (fun (_ : Unit) t => va_P D vwCl (X cA ad S) t.heap ∧ va_K D vwCl (tysX cA) t) (AS ad sz)) 0 0 (AS ad sz) := by
  refine Met.ofW (cc := b_Board_doorsHolding) (maxL := 3) (ret := (some .int)) (by decide) rfl ?_
  intro p e s m args below meth c s₁ B hml hv
  obtain ⟨rfl, hsz, hP, hK⟩ := hv
  have hx := B.exec
  have hb := B.bytes
  have hr := B.returns
  have hts := atoms_spec (ws := w_Board_doorsHolding) B.pre
  have ht := fun w h => hts w (List.mem_cons_of_mem _ h)
  have hown : s.vm.findClass R_Board = some m.cls := findClass_of_methodNamed B.named
  have hlocks := B.notSynchronized
  subst hsz
  have hAd : ∀ q, q < NP → AS ad s.heap.size (ad q) := fun q h => Or.inl ⟨q, h, rfl⟩
  have hA : ∀ q : Nat, s.heap.size ≤ q → AS ad s.heap.size q := fun q h => Or.inr h
  have hAS : ∀ z : Nat, s.heap.size ≤ z → ∀ q : Nat, AS ad z q → AS ad s.heap.size q := fun z h q hq => hq.elim Or.inl (fun g => Or.inr (Nat.le_trans h g))
  generalize hAe : AS ad s.heap.size = A at hAd hA hAS ⊢
  have hS : va_S A s.heap s.heap [] := va_S.rf
  have hl := lv_entry ([.ref (ad 2), .int a1, .int a2]) (n := 3) (Nat.le_of_ble_eq_true rfl)
  rw [lg_entry_eq]
  generalize (lg_sl ([.ref (ad 2), .int a1, .int a2]) ++ List.replicate (3 - (lg_sl ([.ref (ad 2), .int a1, .int a2])).length) Slot.unset).toArray = ls at hl ⊢
  have hl : lv_has ls 3 [(0, .ref (ad 2)), (1, .int a1), (2, .int a2)] := hl
  have hf := (f_Board_doorsHolding_s a1 a2 S).symm
  generalize hQ : MQ below _ _ s _ _ _ = Q
  refine lv_aload_n hx hb d_Board_doorsHolding_0 rfl (lv_at hl 0 rfl) ?_
  refine lv_iload_n hx hb d_Board_doorsHolding_1 rfl (lv_at hl 1 rfl) ?_
  refine lv_iload_n hx hb d_Board_doorsHolding_2 rfl (lv_at hl 2 rfl) ?_
  refine va_calll (va_runS (As := [.int a1, .int a2]) (rest := [.ref (ad 2)]) ⟨hx, hb, hml, hown, ht⟩ (c_Board_bit l D cA ad hI s.heap.size a1 a2 S (fun hn => hs (by rw [hn] at hf; exact hf.symm))) (va_cwS 2 ht (good_G (gS mM_Board_37 mS_Board_bit mN_Board mk_Board_bit)) rfl rfl rfl (by decide +kernel) ⟨Nat.le_of_ble_eq_true rfl, Nat.le_of_ble_eq_true rfl⟩) ⟨fun a U g mk q => ⟨q.1, q.2.1, q.2.2.1, va_K.moved (u := U) (U := U.calling g mk a) (Vm.Alike.refl U.vm) q.2.2.2⟩, fun U hU hW => ⟨rfl, by rw [hU], by rw [hU]; exact hP, va_K.moved hW.alike hK⟩⟩ rfl rfl hl.1 rfl (lv_room (Nat.le_of_ble_eq_true rfl)) d_Board_doorsHolding_3 ⟨Nat.le_of_ble_eq_true rfl, Nat.le_of_ble_eq_true rfl⟩) hS (fun q _ h => hAS _ hS.1 q h) (fun q h => hAS _ hS.1 q h) (fun r1 _ t H locs ht9 hvm hw hB hz1 hk1 hS => ?_)
  obtain ⟨hP, hK9⟩ := hB
  rw [ht9] at hP
  rw [hw, Option.bind_some] at hf
  refine va_calli (va_runV (As := [.long r1]) (rest := []) ⟨hx, hb, hml, hown, ht⟩ (c_Board_doorsFitted l D cA ad hI H.size r1 S (fun hn => hs (by rw [hn] at hf; exact hf.symm))) (cwV 1 ht (good_G (gV mM_Board_41 mI_Board_doorsFitted mV_Board_doorsFitted mN_Board mk_Board_doorsFitted)) rfl rfl rfl (by decide +kernel) ⟨Nat.le_of_ble_eq_true rfl, Nat.le_of_ble_eq_true rfl⟩) ⟨fun a U g mk q => ⟨q.1, q.2.1, q.2.2.1, va_K.moved (u := U) (U := U.calling g mk a) (Vm.Alike.refl U.vm) q.2.2.2⟩, va_recv hK hP (ci := 2) (q0 := 2) rfl Xa_2, fun U hU hW => ⟨rfl, by rw [hU], by rw [hU]; exact hP, va_K.moved hW.alike hK⟩⟩ rfl rfl hl.1 rfl (lv_room (Nat.le_of_ble_eq_true rfl)) d_Board_doorsHolding_6 ⟨Nat.le_of_ble_eq_true rfl, Nat.le_of_ble_eq_true rfl⟩) hS (fun q _ h => hAS _ hS.1 q h) (fun q h => hAS _ hS.1 q h) (fun r2 _ t H locs ht9 hvm hw hB hz1 hk1 hS => ?_)
  obtain ⟨hP, hK9⟩ := hB
  rw [ht9] at hP
  rw [hw, Option.bind_some] at hf
  rw [← hQ]
  exact W.iret (v := r2) hx hb hr (fun t ht hW => ⟨⟨r2, (), rfl, hf.symm, by rw [ht]; exact hP, va_K.moved hW.alike hK⟩, hS.F ht⟩) hS.2.2 d_Board_doorsHolding_9
set_option maxHeartbeats 4000000 in
set_option maxRecDepth 100000 in
theorem c_Board_countKeys (l : Launch) (D : va_G) (cA : Nat → ClassId) (ad : Nat → Nat) (hI : InjA ad) (sz : Nat) (a1 : Int64) (a3 : Int32) (S : SS) (hs : f_Board_countKeys a1 a3 S ≠ none) : Met l y_Board_countKeys w_Board_countKeys ({ frames := 3, cells := 0, slots := 0, locals := 68 }) (va_Pc [.ref (ad 2), .long a1, .int a3] (fun U => U.heap.size = sz ∧ va_P D vwCl (X cA ad S) U.heap ∧ va_K D vwCl (tysX cA) U)) (va_Qi (fun (r : Int32) (_ : Unit) => f_Board_countKeys a1 a3 S = some r) (fun (_ : Unit) t => va_P D vwCl (X cA ad S) t.heap ∧ va_K D vwCl (tysX cA) t) (AS ad sz)) 0 0 (AS ad sz) := by
  refine Met.ofW (cc := b_Board_countKeys) (maxL := 6) (ret := (some .int)) (by decide) rfl ?_
  intro p e s m args below meth c s₁ B hml hv
  obtain ⟨rfl, hsz, hP, hK⟩ := hv
  have hx := B.exec
  have hb := B.bytes
  have hr := B.returns
  have hts := atoms_spec (ws := w_Board_countKeys) B.pre
  have ht := fun w h => hts w (List.mem_cons_of_mem _ h)
  have hown : s.vm.findClass R_Board = some m.cls := findClass_of_methodNamed B.named
  have hlocks := B.notSynchronized
  subst hsz
  have hAd : ∀ q, q < NP → AS ad s.heap.size (ad q) := fun q h => Or.inl ⟨q, h, rfl⟩
  have hA : ∀ q : Nat, s.heap.size ≤ q → AS ad s.heap.size q := fun q h => Or.inr h
  have hAS : ∀ z : Nat, s.heap.size ≤ z → ∀ q : Nat, AS ad z q → AS ad s.heap.size q := fun z h q hq => hq.elim Or.inl (fun g => Or.inr (Nat.le_trans h g))
  generalize hAe : AS ad s.heap.size = A at hAd hA hAS ⊢
  have hS : va_S A s.heap s.heap [] := va_S.rf
  have hl := lv_entry ([.ref (ad 2), .long a1, .int a3]) (n := 6) (Nat.le_of_ble_eq_true rfl)
  rw [lg_entry_eq]
  generalize (lg_sl ([.ref (ad 2), .long a1, .int a3]) ++ List.replicate (6 - (lg_sl ([.ref (ad 2), .long a1, .int a3])).length) Slot.unset).toArray = ls at hl ⊢
  have hl : lv_has ls 6 [(0, .ref (ad 2)), (1, .long a1), (3, .int a3)] := hl
  have hf := (f_Board_countKeys_s a1 a3 S).symm
  generalize hQ : MQ below _ _ s _ _ _ = Q
  refine lv_iconst (v := 0) hx hb d_Board_countKeys_0 (by decide) ?_
  refine lv_istore (lv' := [(4, .int (0 : Int32)), (0, .ref (ad 2)), (1, .long a1), (3, .int a3)]) hx hb d_Board_countKeys_1 hl (by decide) rfl (fun ls hl => ?_)
  refine lv_iconst (v := 0) hx hb d_Board_countKeys_3 (by decide) ?_
  refine lv_istore (lv' := [(5, .int (0 : Int32)), (4, .int (0 : Int32)), (0, .ref (ad 2)), (1, .long a1), (3, .int a3)]) hx hb d_Board_countKeys_4 hl (by decide) rfl (fun ls hl => ?_)
  have lp6_1 : ∀ (n : Nat) (x4_1 : Int32) (x5_1 : Int32) (H : Heap) (locs : List Loc) (ls : Array Slot), va_P D vwCl (X cA ad S) H → va_S A s.heap H locs → lv_has ls 6 [(0, .ref (ad 2)), (1, .long a1), (3, .int a3), (4, .int x4_1), (5, .int x5_1)] → f_Board_countKeys_L6 a1 a3 n x4_1 x5_1 S ≠ none →
      (∀ v : Int32, f_Board_countKeys_L6 a1 a3 n x4_1 x5_1 S = some v → ∀ (H : Heap) (locs : List Loc) (ls : Array Slot), va_P D vwCl (X cA ad S) H → va_S A s.heap H locs → lv_has ls 6 [(0, .ref (ad 2)), (1, .long a1), (3, .int a3), (4, .int v)] → W p l e (headSpec w_Board_countKeys ({ frames := 3, cells := 0, slots := 0, locals := 68 })).room s m ([.ref (ad 2), .long a1, .int a3] : List Value).toArray below meth c H locs 0 0 Q (F0 m 48 ls [])) →
      W p l e (headSpec w_Board_countKeys ({ frames := 3, cells := 0, slots := 0, locals := 68 })).room s m ([.ref (ad 2), .long a1, .int a3] : List Value).toArray below meth c H locs 0 0 Q (F0 m 6 ls []) := by
    intro n
    induction n with
    | zero => intro x4_1 x5_1 H locs ls hP hS hl hs; exact absurd rfl hs
    | succ n ih =>
      intro x4_1 x5_1 H locs ls hP hS hl hs hexit
      have hf := (f_Board_countKeys_L6_s a1 a3 n x4_1 x5_1 S).symm
      refine lv_iload hx hb d_Board_countKeys_6 (lv_at hl 4 rfl) ?_
      refine lv_aload_n hx hb d_Board_countKeys_8 rfl (lv_at hl 0 rfl) ?_
      refine va_get (D := D) (ci := 2) (v := .int (S.1 2 1)) (C := R_Board) (T := T_Board) (N := 7) hx hb ht i_Board hown hK hP 2 Xa_2 rfl 1 (by decide) (ht _ mF_Board_45) (fun _ h9 => h9) rfl d_Board_countKeys_9 ?_
      refine lv_icmp_ge (tgt := 48) hx hb d_Board_countKeys_12 (by decide) (fun c1 => ?_) (fun c1 => ?_)
      · rw [if_pos c1] at hf
        exact hexit _ hf.symm _ _ _ hP hS (lv_sub hl [0, 1, 2, 3] rfl)
      · rw [if_neg c1] at hf
        refine lv_lload_n hx hb d_Board_countKeys_15 rfl (lv_at hl 1 rfl) ?_
        refine lv_aload_n hx hb d_Board_countKeys_16 rfl (lv_at hl 0 rfl) ?_
        refine va_get (D := D) (ci := 2) (v := .ref (ad 7)) (C := R_Board) (T := T_Board) (N := 7) hx hb ht i_Board hown hK hP 2 Xa_2 rfl 5 (by decide) (ht _ mF_Board_20) (fun _ h9 => h9) rfl d_Board_countKeys_17 ?_
        refine lv_iload hx hb d_Board_countKeys_20 (lv_at hl 4 rfl) ?_
        by_cases b2 : oob x5_1 8
        · rw [if_pos b2] at hf; exact absurd hf.symm hs
        rw [if_neg b2] at hf
        refine va_lald (f := S.2 7) hx hb hK hP 7 1 Xa_7 rfl b2 d_Board_countKeys_22 ?_
        refine va_calli (va_runS (As := [.long a1, .long (S.2 7 x5_1.toNatClampNeg)]) (rest := []) ⟨hx, hb, hml, hown, ht⟩ (c_Board_isWithin l D cA ad hI H.size a1 (S.2 7 x5_1.toNatClampNeg) S (fun hn => hs (by rw [hn] at hf; exact hf.symm))) (va_cwS 2 ht (good_G (gS mM_Board_48 mS_Board_isWithin mN_Board mk_Board_isWithin)) rfl rfl rfl (by decide +kernel) ⟨Nat.le_of_ble_eq_true rfl, Nat.le_of_ble_eq_true rfl⟩) ⟨fun a U g mk q => ⟨q.1, q.2.1, q.2.2.1, va_K.moved (u := U) (U := U.calling g mk a) (Vm.Alike.refl U.vm) q.2.2.2⟩, fun U hU hW => ⟨rfl, by rw [hU], by rw [hU]; exact hP, va_K.moved hW.alike hK⟩⟩ rfl rfl hl.1 rfl (lv_room (Nat.le_of_ble_eq_true rfl)) d_Board_countKeys_23 ⟨Nat.le_of_ble_eq_true rfl, Nat.le_of_ble_eq_true rfl⟩) hS (fun q _ h => hAS _ hS.1 q h) (fun q h => hAS _ hS.1 q h) (fun r1 _ t H locs ht9 hvm hw hB hz1 hk1 hS => ?_)
        obtain ⟨hP, hK9⟩ := hB
        rw [ht9] at hP
        obtain ⟨hw, hz1⟩ := hw
        rw [hw, Option.bind_some] at hf
        refine lv_if_eq (tgt := 42) hx hb d_Board_countKeys_26 (by decide) (fun c3 => ?_) (fun c3 => ?_)
        · rw [if_pos c3] at hf
          refine lv_iinc (v := x5_1 + 1) (lv' := [(5, .int (x5_1 + 1)), (0, .ref (ad 2)), (1, .long a1), (3, .int a3), (4, .int x4_1)]) hx hb d_Board_countKeys_42 hl (k := 4) rfl rfl (by decide) rfl (fun ls hl => ?_)
          refine lv_goto (tgt := 6) hx hb d_Board_countKeys_45 (by decide) ?_
          exact ih x4_1 (x5_1 + 1) _ _ _ hP hS (lv_sub hl [1, 2, 3, 4, 0] rfl) (fun hn => hs (hf.symm.trans hn)) (fun v ho => hexit v (hf.symm.trans ho))
        · rw [if_neg c3] at hf
          refine lv_aload_n hx hb d_Board_countKeys_29 rfl (lv_at hl 0 rfl) ?_
          refine lv_iload hx hb d_Board_countKeys_30 (lv_at hl 4 rfl) ?_
          refine va_calli (va_runV (As := [.int x5_1]) (rest := []) ⟨hx, hb, hml, hown, ht⟩ (c_Board_doorsOf l D cA ad hI H.size x5_1 S (fun hn => hs (by rw [hn] at hf; exact hf.symm))) (cwV 1 ht (good_G (gV mM_Board_52 mI_Board_doorsOf mV_Board_doorsOf mN_Board mk_Board_doorsOf)) rfl rfl rfl (by decide +kernel) ⟨Nat.le_of_ble_eq_true rfl, Nat.le_of_ble_eq_true rfl⟩) ⟨fun a U g mk q => ⟨q.1, q.2.1, q.2.2.1, va_K.moved (u := U) (U := U.calling g mk a) (Vm.Alike.refl U.vm) q.2.2.2⟩, va_recv hK hP (ci := 2) (q0 := 2) rfl Xa_2, fun U hU hW => ⟨rfl, by rw [hU], by rw [hU]; exact hP, va_K.moved hW.alike hK⟩⟩ rfl rfl hl.1 rfl (lv_room (Nat.le_of_ble_eq_true rfl)) d_Board_countKeys_32 ⟨Nat.le_of_ble_eq_true rfl, Nat.le_of_ble_eq_true rfl⟩) hS (fun q _ h => hAS _ hS.1 q h) (fun q h => hAS _ hS.1 q h) (fun r2 _ t H locs ht9 hvm hw hB hz1 hk1 hS => ?_)
          obtain ⟨hP, hK9⟩ := hB
          rw [ht9] at hP
          rw [hw, Option.bind_some] at hf
          refine lv_iload_n hx hb d_Board_countKeys_35 rfl (lv_at hl 2 rfl) ?_
          refine lv_icmp_ne (tgt := 42) hx hb d_Board_countKeys_36 (by decide) (fun c4 => ?_) (fun c4 => ?_)
          · rw [if_neg c4] at hf
            refine lv_iinc (v := x5_1 + 1) (lv' := [(5, .int (x5_1 + 1)), (0, .ref (ad 2)), (1, .long a1), (3, .int a3), (4, .int x4_1)]) hx hb d_Board_countKeys_42 hl (k := 4) rfl rfl (by decide) rfl (fun ls hl => ?_)
            refine lv_goto (tgt := 6) hx hb d_Board_countKeys_45 (by decide) ?_
            exact ih x4_1 (x5_1 + 1) _ _ _ hP hS (lv_sub hl [1, 2, 3, 4, 0] rfl) (fun hn => hs (hf.symm.trans hn)) (fun v ho => hexit v (hf.symm.trans ho))
          · rw [if_pos c4] at hf
            refine lv_iinc (v := x4_1 + 1) (lv' := [(4, .int (x4_1 + 1)), (0, .ref (ad 2)), (1, .long a1), (3, .int a3), (5, .int x5_1)]) hx hb d_Board_countKeys_39 hl (k := 3) rfl rfl (by decide) rfl (fun ls hl => ?_)
            refine lv_iinc (v := x5_1 + 1) (lv' := [(5, .int (x5_1 + 1)), (4, .int (x4_1 + 1)), (0, .ref (ad 2)), (1, .long a1), (3, .int a3)]) hx hb d_Board_countKeys_42 hl (k := 4) rfl rfl (by decide) rfl (fun ls hl => ?_)
            refine lv_goto (tgt := 6) hx hb d_Board_countKeys_45 (by decide) ?_
            exact ih (x4_1 + 1) (x5_1 + 1) _ _ _ hP hS (lv_sub hl [2, 3, 4, 1, 0] rfl) (fun hn => hs (hf.symm.trans hn)) (fun v ho => hexit v (hf.symm.trans ho))
  refine lp6_1 FU (0 : Int32) (0 : Int32) _ _ _ hP hS (lv_sub hl [2, 3, 4, 1, 0] rfl) (fun hn => ?_) (fun v5 hvv5 H locs ls hP hS hl => ?_)
  · rw [hn] at hf; exact hs hf.symm
  · rw [hvv5, Option.bind_some] at hf
    refine lv_iload hx hb d_Board_countKeys_48 (lv_at hl 3 rfl) ?_
    rw [← hQ]
    exact W.iret (v := v5) hx hb hr (fun t ht hW => ⟨⟨v5, (), rfl, hf.symm, by rw [ht]; exact hP, va_K.moved hW.alike hK⟩, hS.F ht⟩) hS.2.2 d_Board_countKeys_50
set_option maxHeartbeats 4000000 in
set_option maxRecDepth 100000 in
theorem c_Board_allDoors (l : Launch) (D : va_G) (cA : Nat → ClassId) (ad : Nat → Nat) (hI : InjA ad) (sz : Nat) (S : SS) (hs : f_Board_allDoors S ≠ none) : Met l y_Board_allDoors w_Board_allDoors ({ frames := 0, cells := 0, slots := 0, locals := 0 }) (va_Pc [.ref (ad 2)] (fun U => U.heap.size = sz ∧ va_P D vwCl (X cA ad S) U.heap ∧ va_K D vwCl (tysX cA) U)) (va_Qi (fun (r : Int32) (_ : Unit) => f_Board_allDoors S = some r) (fun (_ : Unit) t => va_P D vwCl (X cA ad S) t.heap ∧ va_K D vwCl (tysX cA) t) (AS ad sz)) 0 0 (AS ad sz) := by
  refine Met.ofW (cc := b_Board_allDoors) (maxL := 1) (ret := (some .int)) (by decide) rfl ?_
  intro p e s m args below meth c s₁ B hml hv
  obtain ⟨rfl, hsz, hP, hK⟩ := hv
  have hx := B.exec
  have hb := B.bytes
  have hr := B.returns
  have hts := atoms_spec (ws := w_Board_allDoors) B.pre
  have ht := fun w h => hts w (List.mem_cons_of_mem _ h)
  have hown : s.vm.findClass R_Board = some m.cls := findClass_of_methodNamed B.named
  have hlocks := B.notSynchronized
  subst hsz
  have hAd : ∀ q, q < NP → AS ad s.heap.size (ad q) := fun q h => Or.inl ⟨q, h, rfl⟩
  have hA : ∀ q : Nat, s.heap.size ≤ q → AS ad s.heap.size q := fun q h => Or.inr h
  have hAS : ∀ z : Nat, s.heap.size ≤ z → ∀ q : Nat, AS ad z q → AS ad s.heap.size q := fun z h q hq => hq.elim Or.inl (fun g => Or.inr (Nat.le_trans h g))
  generalize hAe : AS ad s.heap.size = A at hAd hA hAS ⊢
  have hS : va_S A s.heap s.heap [] := va_S.rf
  have hl := lv_entry ([.ref (ad 2)]) (n := 1) (Nat.le_of_ble_eq_true rfl)
  rw [lg_entry_eq]
  generalize (lg_sl ([.ref (ad 2)]) ++ List.replicate (1 - (lg_sl ([.ref (ad 2)])).length) Slot.unset).toArray = ls at hl ⊢
  have hl : lv_has ls 1 [(0, .ref (ad 2))] := hl
  have hf := (f_Board_allDoors_s S).symm
  generalize hQ : MQ below _ _ s _ _ _ = Q
  refine lv_iconst (v := 1) hx hb d_Board_allDoors_0 (by decide) ?_
  refine lv_aload_n hx hb d_Board_allDoors_1 rfl (lv_at hl 0 rfl) ?_
  refine va_get (D := D) (ci := 2) (v := .int (S.1 2 2)) (C := R_Board) (T := T_Board) (N := 7) hx hb ht i_Board hown hK hP 2 Xa_2 rfl 2 (by decide) (ht _ mF_Board_33) (fun _ h9 => h9) rfl d_Board_allDoors_2 ?_
  refine lv_ishl hx hb d_Board_allDoors_5 ?_
  refine lv_iconst (v := 1) hx hb d_Board_allDoors_6 (by decide) ?_
  refine lv_isub hx hb d_Board_allDoors_7 ?_
  rw [← hQ]
  exact W.iret (v := ((1 : Int32) <<< ((S.1 2 2) &&& 31)) - (1 : Int32)) hx hb hr (fun t ht hW => ⟨⟨((1 : Int32) <<< ((S.1 2 2) &&& 31)) - (1 : Int32), (), rfl, hf.symm, by rw [ht]; exact hP, va_K.moved hW.alike hK⟩, hS.F ht⟩) hS.2.2 d_Board_allDoors_8
set_option maxHeartbeats 4000000 in
set_option maxRecDepth 100000 in
theorem c_Board_enter (l : Launch) (D : va_G) (cA : Nat → ClassId) (ad : Nat → Nat) (hI : InjA ad) (sz : Nat) (a1 : Int32) (S : SS) (hs : f_Board_enter a1 S ≠ none) : Met l y_Board_enter w_Board_enter ({ frames := 2, cells := 0, slots := 0, locals := 45 }) (va_Pc [.ref (ad 2), .int a1] (fun U => U.heap.size = sz ∧ va_P D vwCl (X cA ad S) U.heap ∧ va_K D vwCl (tysX cA) U)) (va_Qv (fun (u : SS) => f_Board_enter a1 S = some u) (fun (u : SS) t => va_P D vwCl (X cA ad u) t.heap ∧ va_K D vwCl (tysX cA) t) (AS ad sz)) 0 0 (AS ad sz) := by
  refine Met.ofW (cc := b_Board_enter) (maxL := 4) (ret := none) (by decide) rfl ?_
  intro p e s m args below meth c s₁ B hml hv
  obtain ⟨rfl, hsz, hP, hK⟩ := hv
  have hx := B.exec
  have hb := B.bytes
  have hr := B.returns
  have hts := atoms_spec (ws := w_Board_enter) B.pre
  have ht := fun w h => hts w (List.mem_cons_of_mem _ h)
  have hown : s.vm.findClass R_Board = some m.cls := findClass_of_methodNamed B.named
  have hlocks := B.notSynchronized
  subst hsz
  have hAd : ∀ q, q < NP → AS ad s.heap.size (ad q) := fun q h => Or.inl ⟨q, h, rfl⟩
  have hA : ∀ q : Nat, s.heap.size ≤ q → AS ad s.heap.size q := fun q h => Or.inr h
  have hAS : ∀ z : Nat, s.heap.size ≤ z → ∀ q : Nat, AS ad z q → AS ad s.heap.size q := fun z h q hq => hq.elim Or.inl (fun g => Or.inr (Nat.le_trans h g))
  generalize hAe : AS ad s.heap.size = A at hAd hA hAS ⊢
  have hS : va_S A s.heap s.heap [] := va_S.rf
  have hl := lv_entry ([.ref (ad 2), .int a1]) (n := 4) (Nat.le_of_ble_eq_true rfl)
  rw [lg_entry_eq]
  generalize (lg_sl ([.ref (ad 2), .int a1]) ++ List.replicate (4 - (lg_sl ([.ref (ad 2), .int a1])).length) Slot.unset).toArray = ls at hl ⊢
  have hl : lv_has ls 4 [(0, .ref (ad 2)), (1, .int a1)] := hl
  have hf := (f_Board_enter_s a1 S).symm
  generalize hQ : MQ below _ _ s _ _ _ = Q
  refine lv_aload_n hx hb d_Board_enter_0 rfl (lv_at hl 0 rfl) ?_
  refine va_get (D := D) (ci := 2) (v := .int (S.1 2 1)) (C := R_Board) (T := T_Board) (N := 7) hx hb ht i_Board hown hK hP 2 Xa_2 rfl 1 (by decide) (ht _ mF_Board_45) (fun _ h9 => h9) rfl d_Board_enter_1 ?_
  refine lv_istore_n (lv' := [(2, .int (S.1 2 1)), (0, .ref (ad 2)), (1, .int a1)]) hx hb d_Board_enter_4 rfl hl (by decide) rfl (fun ls hl => ?_)
  refine lv_aload_n hx hb d_Board_enter_5 rfl (lv_at hl 1 rfl) ?_
  refine va_get (D := D) (ci := 2) (v := .ref (ad 5)) (C := R_Board) (T := T_Board) (N := 7) hx hb ht i_Board hown hK hP 2 Xa_2 rfl 3 (by decide) (ht _ mF_Board_9) (fun _ h9 => h9) rfl d_Board_enter_6 ?_
  refine lv_iload_n hx hb d_Board_enter_9 rfl (lv_at hl 0 rfl) ?_
  refine lv_iload_n hx hb d_Board_enter_10 rfl (lv_at hl 2 rfl) ?_
  by_cases b1 : oob (S.1 2 1) 8
  · rw [if_pos b1] at hf; exact absurd hf.symm hs
  rw [if_neg b1] at hf
  refine va_iast hx hb hK hP (X_D hI hAd) hS 5 0 Xa_5 rfl b1 d_Board_enter_11 (fun H locs hP _ hS => ?_)
  replace hP := X_stI (by decide) Xc_5 hP
  refine lv_aload_n hx hb d_Board_enter_12 rfl (lv_at hl 1 rfl) ?_
  refine va_get (D := D) (ci := 2) (v := .ref (ad 7)) (C := R_Board) (T := T_Board) (N := 7) hx hb ht i_Board hown hK hP 2 Xa_2 rfl 5 (by decide) (ht _ mF_Board_20) (fun _ h9 => h9) rfl d_Board_enter_13 ?_
  refine lv_iload_n hx hb d_Board_enter_16 rfl (lv_at hl 0 rfl) ?_
  refine lv_aload_n hx hb d_Board_enter_17 rfl (lv_at hl 1 rfl) ?_
  refine lv_iload_n hx hb d_Board_enter_18 rfl (lv_at hl 0 rfl) ?_
  refine va_calll (va_runV (As := [.int (S.1 2 1)]) (rest := [.int (S.1 2 1), .ref (ad 7)]) ⟨hx, hb, hml, hown, ht⟩ (c_Board_rowFromCuts l D cA ad hI H.size (S.1 2 1) (wI S 5 (S.1 2 1).toNatClampNeg a1) (fun hn => hs (by rw [hn] at hf; exact hf.symm))) (cwV 1 ht (good_G (gV mM_Board_56 mI_Board_rowFromCuts mV_Board_rowFromCuts mN_Board mk_Board_rowFromCuts)) rfl rfl rfl (by decide +kernel) ⟨Nat.le_of_ble_eq_true rfl, Nat.le_of_ble_eq_true rfl⟩) ⟨fun a U g mk q => ⟨q.1, q.2.1, q.2.2.1, va_K.moved (u := U) (U := U.calling g mk a) (Vm.Alike.refl U.vm) q.2.2.2⟩, va_recv hK hP (ci := 2) (q0 := 2) rfl Xa_2, fun U hU hW => ⟨rfl, by rw [hU], by rw [hU]; exact hP, va_K.moved hW.alike hK⟩⟩ rfl rfl hl.1 rfl (lv_room (Nat.le_of_ble_eq_true rfl)) d_Board_enter_19 ⟨Nat.le_of_ble_eq_true rfl, Nat.le_of_ble_eq_true rfl⟩) hS (fun q _ h => hAS _ hS.1 q h) (fun q h => hAS _ hS.1 q h) (fun r1 _ t H locs ht9 hvm hw hB hz1 hk1 hS => ?_)
  obtain ⟨hP, hK9⟩ := hB
  rw [ht9] at hP
  rw [hw, Option.bind_some] at hf
  refine va_last hx hb hK hP (X_D hI hAd) hS 7 1 Xa_7 rfl b1 d_Board_enter_22 (fun H locs hP _ hS => ?_)
  replace hP := X_stL (by decide) Xc_7 hP
  refine lv_iconst (v := 0) hx hb d_Board_enter_23 (by decide) ?_
  refine lv_istore_n (lv' := [(3, .int (0 : Int32)), (2, .int (S.1 2 1)), (0, .ref (ad 2)), (1, .int a1)]) hx hb d_Board_enter_24 rfl hl (by decide) rfl (fun ls hl => ?_)
  have lp25_1 : ∀ (n : Nat) (x3_1 : Int32) (Sx : SS) (H : Heap) (locs : List Loc) (ls : Array Slot), va_P D vwCl (X cA ad Sx) H → va_S A s.heap H locs → lv_has ls 4 [(0, .ref (ad 2)), (2, .int (S.1 2 1)), (3, .int x3_1)] → f_Board_enter_L25 (S.1 2 1) n x3_1 Sx ≠ none →
      (∀ v : SS, f_Board_enter_L25 (S.1 2 1) n x3_1 Sx = some v → ∀ (H : Heap) (locs : List Loc) (ls : Array Slot), va_P D vwCl (X cA ad v) H → va_S A s.heap H locs → lv_has ls 4 [(0, .ref (ad 2)), (2, .int (S.1 2 1))] → W p l e (headSpec w_Board_enter ({ frames := 2, cells := 0, slots := 0, locals := 45 })).room s m ([.ref (ad 2), .int a1] : List Value).toArray below meth c H locs 0 0 Q (F0 m 57 ls [])) →
      W p l e (headSpec w_Board_enter ({ frames := 2, cells := 0, slots := 0, locals := 45 })).room s m ([.ref (ad 2), .int a1] : List Value).toArray below meth c H locs 0 0 Q (F0 m 25 ls []) := by
    intro n
    induction n with
    | zero => intro x3_1 Sx H locs ls hP hS hl hs; exact absurd rfl hs
    | succ n ih =>
      intro x3_1 Sx H locs ls hP hS hl hs hexit
      have hf := (f_Board_enter_L25_s (S.1 2 1) n x3_1 Sx).symm
      refine lv_iload_n hx hb d_Board_enter_25 rfl (lv_at hl 2 rfl) ?_
      refine lv_aload_n hx hb d_Board_enter_26 rfl (lv_at hl 0 rfl) ?_
      refine va_get (D := D) (ci := 2) (v := .int (Sx.1 2 2)) (C := R_Board) (T := T_Board) (N := 7) hx hb ht i_Board hown hK hP 2 Xa_2 rfl 2 (by decide) (ht _ mF_Board_33) (fun _ h9 => h9) rfl d_Board_enter_27 ?_
      refine lv_icmp_ge (tgt := 57) hx hb d_Board_enter_30 (by decide) (fun c2 => ?_) (fun c2 => ?_)
      · rw [if_pos c2] at hf
        exact hexit _ hf.symm _ _ _ hP hS (lv_sub hl [0, 1] rfl)
      · rw [if_neg c2] at hf
        refine lv_aload_n hx hb d_Board_enter_33 rfl (lv_at hl 0 rfl) ?_
        refine va_get (D := D) (ci := 2) (v := .ref (ad 8)) (C := R_Board) (T := T_Board) (N := 7) hx hb ht i_Board hown hK hP 2 Xa_2 rfl 6 (by decide) (ht _ mF_Board_26) (fun _ h9 => h9) rfl d_Board_enter_34 ?_
        refine lv_iload_n hx hb d_Board_enter_37 rfl (lv_at hl 1 rfl) ?_
        refine lv_iconst (v := 1) hx hb d_Board_enter_38 (by decide) ?_
        refine lv_iadd hx hb d_Board_enter_39 ?_
        by_cases b3 : oob ((S.1 2 1) + (1 : Int32)) 9
        · rw [if_pos b3] at hf; exact absurd hf.symm hs
        rw [if_neg b3] at hf
        refine gz_aald hx hb hK hP 8 3 Xa_8 rfl b3 d_Board_enter_40 ?_
        rw [X_row b3]
        refine lv_iload_n hx hb d_Board_enter_41 rfl (lv_at hl 2 rfl) ?_
        refine lv_aload_n hx hb d_Board_enter_42 rfl (lv_at hl 0 rfl) ?_
        refine va_get (D := D) (ci := 2) (v := .ref (ad 8)) (C := R_Board) (T := T_Board) (N := 7) hx hb ht i_Board hown hK hP 2 Xa_2 rfl 6 (by decide) (ht _ mF_Board_26) (fun _ h9 => h9) rfl d_Board_enter_43 ?_
        refine lv_iload_n hx hb d_Board_enter_46 rfl (lv_at hl 1 rfl) ?_
        by_cases b4 : oob (S.1 2 1) 9
        · rw [if_pos b4] at hf; exact absurd hf.symm hs
        rw [if_neg b4] at hf
        refine gz_aald hx hb hK hP 8 3 Xa_8 rfl b4 d_Board_enter_47 ?_
        rw [X_row b4]
        refine lv_iload_n hx hb d_Board_enter_48 rfl (lv_at hl 2 rfl) ?_
        by_cases b5 : oob x3_1 6
        · rw [if_pos b5] at hf; exact absurd hf.symm hs
        rw [if_neg b5] at hf
        refine va_lald (f := Sx.2 (18 + (S.1 2 1).toNatClampNeg)) hx hb hK hP (18 + (S.1 2 1).toNatClampNeg) 1 (X_rowat8 b4) rfl b5 d_Board_enter_49 ?_
        refine va_last hx hb hK hP (X_D hI hAd) hS (18 + ((S.1 2 1) + (1 : Int32)).toNatClampNeg) 1 (X_rowat8 b3) rfl b5 d_Board_enter_50 (fun H locs hP _ hS => ?_)
        replace hP := X_stL (X_rowlt8 b3) (X_rowcell8 b3) hP
        refine lv_iinc (v := x3_1 + 1) (lv' := [(3, .int (x3_1 + 1)), (0, .ref (ad 2)), (2, .int (S.1 2 1))]) hx hb d_Board_enter_51 hl (k := 2) rfl rfl (by decide) rfl (fun ls hl => ?_)
        refine lv_goto (tgt := 25) hx hb d_Board_enter_54 (by decide) ?_
        exact ih (x3_1 + 1) (wL Sx (18 + ((S.1 2 1) + (1 : Int32)).toNatClampNeg) x3_1.toNatClampNeg (Sx.2 (18 + (S.1 2 1).toNatClampNeg) x3_1.toNatClampNeg)) _ _ _ hP hS (lv_sub hl [1, 2, 0] rfl) (fun hn => hs (hf.symm.trans hn)) (fun v ho => hexit v (hf.symm.trans ho))
  refine lp25_1 FU (0 : Int32) (wL (wI S 5 (S.1 2 1).toNatClampNeg a1) 7 (S.1 2 1).toNatClampNeg r1) _ _ _ hP hS (lv_sub hl [2, 1, 0] rfl) (fun hn => ?_) (fun v6 hvv6 H locs ls hP hS hl => ?_)
  · rw [hn] at hf; exact hs hf.symm
  · rw [hvv6, Option.bind_some] at hf
    refine lv_aload_n hx hb d_Board_enter_57 rfl (lv_at hl 0 rfl) ?_
    refine lv_dup hx hb d_Board_enter_58 rfl ?_
    refine va_get (D := D) (ci := 2) (v := .int (v6.1 2 1)) (C := R_Board) (T := T_Board) (N := 7) hx hb ht i_Board hown hK hP 2 Xa_2 rfl 1 (by decide) (ht _ mF_Board_45) (fun _ h9 => h9) rfl d_Board_enter_59 ?_
    refine lv_iconst (v := 1) hx hb d_Board_enter_62 (by decide) ?_
    refine lv_iadd hx hb d_Board_enter_63 ?_
    refine va_put (D := D) (ci := 2) (v := .int ((v6.1 2 1) + (1 : Int32))) (ty := .int) (C := R_Board) (T := T_Board) (N := 7) hx hb ht i_Board t_Board t_Board_ok n_Board hown hK hP (X_D hI hAd) hS 2 Xa_2 rfl 1 (by decide) (ht _ mF_Board_45) (fun _ h9 => h9) rfl (by decide +kernel) rfl rfl (Nat.le_of_ble_eq_true rfl) d_Board_enter_64 (fun H locs hP _ hS => ?_)
    replace hP := X_putI (by decide) hP rfl
    rw [← hQ]
    exact W.vret hx hb hr (fun t ht hW => ⟨⟨wI v6 2 1 ((v6.1 2 1) + (1 : Int32)), rfl, hf.symm, by rw [ht]; exact hP, va_K.moved hW.alike hK⟩, hS.F ht⟩) hS.2.2 d_Board_enter_67
end
section
set_option maxHeartbeats 4000000 in
set_option maxRecDepth 100000 in
theorem c_Search_stands (l : Launch) (D : va_G) (cA : Nat → ClassId) (ad : Nat → Nat) (hI : InjA ad) (sz : Nat) (S : SS) (hs : f_Search_stands S ≠ none) : Met l y_Search_stands w_Search_stands ({ frames := 4, cells := 0, slots := 0, locals := 98 }) (va_Pc [.ref (ad 3)] (fun U => U.heap.size = sz ∧ va_P D vwCl (X cA ad S) U.heap ∧ va_K D vwCl (tysX cA) U)) (va_Qi (fun (r : Int32) (u : SS) => f_Search_stands S = some (r, u) ∧ (r = 0 ∨ r = 1)) (fun (u : SS) t => va_P D vwCl (X cA ad u) t.heap ∧ va_K D vwCl (tysX cA) t) (AS ad sz)) 0 0 (AS ad sz) := by
  refine Met.ofW (cc := b_Search_stands) (maxL := 2) (ret := (some .boolean)) (by decide) rfl ?_
  intro p e s m args below meth c s₁ B hml hv
  obtain ⟨rfl, hsz, hP, hK⟩ := hv
  have hx := B.exec
  have hb := B.bytes
  have hr := B.returns
  have hts := atoms_spec (ws := w_Search_stands) B.pre
  have ht := fun w h => hts w (List.mem_cons_of_mem _ h)
  have hown : s.vm.findClass R_Search = some m.cls := findClass_of_methodNamed B.named
  have hlocks := B.notSynchronized
  subst hsz
  have hAd : ∀ q, q < NP → AS ad s.heap.size (ad q) := fun q h => Or.inl ⟨q, h, rfl⟩
  have hA : ∀ q : Nat, s.heap.size ≤ q → AS ad s.heap.size q := fun q h => Or.inr h
  have hAS : ∀ z : Nat, s.heap.size ≤ z → ∀ q : Nat, AS ad z q → AS ad s.heap.size q := fun z h q hq => hq.elim Or.inl (fun g => Or.inr (Nat.le_trans h g))
  generalize hAe : AS ad s.heap.size = A at hAd hA hAS ⊢
  have hS : va_S A s.heap s.heap [] := va_S.rf
  have hl := lv_entry ([.ref (ad 3)]) (n := 2) (Nat.le_of_ble_eq_true rfl)
  rw [lg_entry_eq]
  generalize (lg_sl ([.ref (ad 3)]) ++ List.replicate (2 - (lg_sl ([.ref (ad 3)])).length) Slot.unset).toArray = ls at hl ⊢
  have hl : lv_has ls 2 [(0, .ref (ad 3))] := hl
  have hf := (f_Search_stands_s S).symm
  generalize hQ : MQ below _ _ s _ _ _ = Q
  refine lv_aload_n hx hb d_Search_stands_0 rfl (lv_at hl 0 rfl) ?_
  refine va_get (D := D) (ci := 3) (v := .ref (ad 2)) (C := R_Search) (T := T_Search) (N := 5) hx hb ht i_Search hown hK hP 3 Xa_3 rfl 1 (by decide) (ht _ mF_Search_15) (fun _ h9 => h9) rfl d_Search_stands_1 ?_
  refine va_get (D := D) (ci := 2) (v := .ref (ad 6)) (C := R_Board) (T := T_Board) (N := 7) hx hb ht i_Board hown hK hP 2 Xa_2 rfl 4 (by decide) (ht _ mF_Search_29) (fun _ h9 => h9) rfl d_Search_stands_4 ?_
  refine lv_aload_n hx hb d_Search_stands_7 rfl (lv_at hl 0 rfl) ?_
  refine va_get (D := D) (ci := 3) (v := .int (S.1 3 3)) (C := R_Search) (T := T_Search) (N := 5) hx hb ht i_Search hown hK hP 3 Xa_3 rfl 3 (by decide) (ht _ mF_Search_23) (fun _ h9 => h9) rfl d_Search_stands_8 ?_
  by_cases b1 : oob (S.1 3 3) 8
  · rw [if_pos b1] at hf; exact absurd hf.symm hs
  rw [if_neg b1] at hf
  refine gz_aald hx hb hK hP 6 2 Xa_6 rfl b1 d_Search_stands_11 ?_
  rw [X_row b1]
  refine lv_astore_n (lv' := [(1, .ref (ad (10 + (S.1 3 3).toNatClampNeg))), (0, .ref (ad 3))]) hx hb d_Search_stands_12 rfl hl (by decide) rfl (fun ls hl => ?_)
  refine lv_aload_n hx hb d_Search_stands_13 rfl (lv_at hl 1 rfl) ?_
  refine va_get (D := D) (ci := 3) (v := .int (S.1 3 4)) (C := R_Search) (T := T_Search) (N := 5) hx hb ht i_Search hown hK hP 3 Xa_3 rfl 4 (by decide) (ht _ mF_Search_26) (fun _ h9 => h9) rfl d_Search_stands_14 ?_
  refine lv_if_le (tgt := 46) hx hb d_Search_stands_17 (by decide) (fun c2 => ?_) (fun c2 => ?_)
  · rw [if_pos c2] at hf
    refine lv_aload_n hx hb d_Search_stands_46 rfl (lv_at hl 1 rfl) ?_
    refine va_get (D := D) (ci := 3) (v := .int (S.1 3 4)) (C := R_Search) (T := T_Search) (N := 5) hx hb ht i_Search hown hK hP 3 Xa_3 rfl 4 (by decide) (ht _ mF_Search_26) (fun _ h9 => h9) rfl d_Search_stands_47 ?_
    refine lv_aload_n hx hb d_Search_stands_50 rfl (lv_at hl 1 rfl) ?_
    refine va_get (D := D) (ci := 3) (v := .ref (ad 1)) (C := R_Search) (T := T_Search) (N := 5) hx hb ht i_Search hown hK hP 3 Xa_3 rfl 0 (by decide) (ht _ mF_Search_9) (fun _ h9 => h9) rfl d_Search_stands_51 ?_
    refine va_get (D := D) (ci := 1) (v := .int (S.1 1 0)) (C := R_Law) (T := T_Law) (N := 5) hx hb ht i_Law hown hK hP 1 Xa_1 rfl 0 (by decide) (ht _ mF_Search_51) (fun _ h9 => h9) rfl d_Search_stands_54 ?_
    refine lv_iconst (v := 1) hx hb d_Search_stands_57 (by decide) ?_
    refine lv_isub hx hb d_Search_stands_58 ?_
    refine lv_icmp_lt (tgt := 76) hx hb d_Search_stands_59 (by decide) (fun c3 => ?_) (fun c3 => ?_)
    · rw [if_pos c3] at hf
      refine lv_iconst (v := 1) hx hb d_Search_stands_76 (by decide) ?_
      refine lv_goto (tgt := 81) hx hb d_Search_stands_77 (by decide) ?_
      rw [← hQ]
      have hz : (1 : Int32) = 0 ∨ (1 : Int32) = 1 := Or.inr rfl
      exact W.zret (v := (1 : Int32)) hx hb hr (zb_n hz) (fun t ht hW => ⟨⟨(1 : Int32), S, rfl, ⟨hf.symm, hz⟩, by rw [ht]; exact hP, va_K.moved hW.alike hK⟩, hS.F ht⟩) hS.2.2 d_Search_stands_81
    · rw [if_neg c3] at hf
      refine lv_aload_n hx hb d_Search_stands_62 rfl (lv_at hl 1 rfl) ?_
      refine va_get (D := D) (ci := 3) (v := .ref (ad 2)) (C := R_Search) (T := T_Search) (N := 5) hx hb ht i_Search hown hK hP 3 Xa_3 rfl 1 (by decide) (ht _ mF_Search_15) (fun _ h9 => h9) rfl d_Search_stands_63 ?_
      refine lv_aload_n hx hb d_Search_stands_66 rfl (lv_at hl 1 rfl) ?_
      refine va_get (D := D) (ci := 3) (v := .int (S.1 3 3)) (C := R_Search) (T := T_Search) (N := 5) hx hb ht i_Search hown hK hP 3 Xa_3 rfl 3 (by decide) (ht _ mF_Search_23) (fun _ h9 => h9) rfl d_Search_stands_67 ?_
      refine va_calli (va_runV (As := [.int (S.1 3 3)]) (rest := []) ⟨hx, hb, hml, hown, ht⟩ (c_Board_accepts l D cA ad hI s.heap.size (S.1 3 3) S (fun hn => hs (by rw [hn] at hf; exact hf.symm))) (cwV 1 ht (good_G (gV mM_Search_54 mI_Board_accepts mV_Board_accepts mN_Board mk_Board_accepts)) rfl rfl rfl (by decide +kernel) ⟨Nat.le_of_ble_eq_true rfl, Nat.le_of_ble_eq_true rfl⟩) ⟨fun a U g mk q => ⟨q.1, q.2.1, q.2.2.1, va_K.moved (u := U) (U := U.calling g mk a) (Vm.Alike.refl U.vm) q.2.2.2⟩, va_recv hK hP (ci := 2) (q0 := 2) rfl Xa_2, fun U hU hW => ⟨rfl, by rw [hU], by rw [hU]; exact hP, va_K.moved hW.alike hK⟩⟩ rfl rfl hl.1 rfl (lv_room (Nat.le_of_ble_eq_true rfl)) d_Search_stands_70 ⟨Nat.le_of_ble_eq_true rfl, Nat.le_of_ble_eq_true rfl⟩) hS (fun q _ h => hAS _ hS.1 q h) (fun q h => hAS _ hS.1 q h) (fun r1 u1 t H locs ht9 hvm hw hB hz1 hk1 hS => ?_)
      obtain ⟨hP, hK9⟩ := hB
      rw [ht9] at hP
      obtain ⟨hw, hz1⟩ := hw
      rw [hw, Option.bind_some] at hf
      dsimp only at hf
      refine lv_if_eq (tgt := 80) hx hb d_Search_stands_73 (by decide) (fun c4 => ?_) (fun c4 => ?_)
      · rw [if_pos c4] at hf
        refine lv_iconst (v := 0) hx hb d_Search_stands_80 (by decide) ?_
        rw [← hQ]
        have hz : (0 : Int32) = 0 ∨ (0 : Int32) = 1 := Or.inl rfl
        exact W.zret (v := (0 : Int32)) hx hb hr (zb_n hz) (fun t ht hW => ⟨⟨(0 : Int32), u1, rfl, ⟨hf.symm, hz⟩, by rw [ht]; exact hP, va_K.moved hW.alike hK⟩, hS.F ht⟩) hS.2.2 d_Search_stands_81
      · rw [if_neg c4] at hf
        refine lv_iconst (v := 1) hx hb d_Search_stands_76 (by decide) ?_
        refine lv_goto (tgt := 81) hx hb d_Search_stands_77 (by decide) ?_
        rw [← hQ]
        have hz : (1 : Int32) = 0 ∨ (1 : Int32) = 1 := Or.inr rfl
        exact W.zret (v := (1 : Int32)) hx hb hr (zb_n hz) (fun t ht hW => ⟨⟨(1 : Int32), u1, rfl, ⟨hf.symm, hz⟩, by rw [ht]; exact hP, va_K.moved hW.alike hK⟩, hS.F ht⟩) hS.2.2 d_Search_stands_81
  · rw [if_neg c2] at hf
    refine lv_aload_n hx hb d_Search_stands_20 rfl (lv_at hl 1 rfl) ?_
    refine va_get (D := D) (ci := 3) (v := .ref (ad 1)) (C := R_Search) (T := T_Search) (N := 5) hx hb ht i_Search hown hK hP 3 Xa_3 rfl 0 (by decide) (ht _ mF_Search_9) (fun _ h9 => h9) rfl d_Search_stands_21 ?_
    refine lv_aload_n hx hb d_Search_stands_24 rfl (lv_at hl 0 rfl) ?_
    refine lv_aload_n hx hb d_Search_stands_25 rfl (lv_at hl 1 rfl) ?_
    refine va_get (D := D) (ci := 3) (v := .int (S.1 3 4)) (C := R_Search) (T := T_Search) (N := 5) hx hb ht i_Search hown hK hP 3 Xa_3 rfl 4 (by decide) (ht _ mF_Search_26) (fun _ h9 => h9) rfl d_Search_stands_26 ?_
    refine lv_iconst (v := 1) hx hb d_Search_stands_29 (by decide) ?_
    refine lv_isub hx hb d_Search_stands_30 ?_
    by_cases b5 : oob ((S.1 3 4) - (1 : Int32)) 6
    · rw [if_pos b5] at hf; exact absurd hf.symm hs
    rw [if_neg b5] at hf
    refine va_iald (f := S.1 (10 + (S.1 3 3).toNatClampNeg)) hx hb hK hP (10 + (S.1 3 3).toNatClampNeg) 0 (X_rowat6 b1) rfl b5 d_Search_stands_31 ?_
    refine lv_aload_n hx hb d_Search_stands_32 rfl (lv_at hl 0 rfl) ?_
    refine lv_aload_n hx hb d_Search_stands_33 rfl (lv_at hl 1 rfl) ?_
    refine va_get (D := D) (ci := 3) (v := .int (S.1 3 4)) (C := R_Search) (T := T_Search) (N := 5) hx hb ht i_Search hown hK hP 3 Xa_3 rfl 4 (by decide) (ht _ mF_Search_26) (fun _ h9 => h9) rfl d_Search_stands_34 ?_
    by_cases b6 : oob (S.1 3 4) 6
    · rw [if_pos b6] at hf; exact absurd hf.symm hs
    rw [if_neg b6] at hf
    refine va_iald (f := S.1 (10 + (S.1 3 3).toNatClampNeg)) hx hb hK hP (10 + (S.1 3 3).toNatClampNeg) 0 (X_rowat6 b1) rfl b6 d_Search_stands_37 ?_
    refine va_calli (va_runV (As := [.int (S.1 (10 + (S.1 3 3).toNatClampNeg) ((S.1 3 4) - (1 : Int32)).toNatClampNeg), .int (S.1 (10 + (S.1 3 3).toNatClampNeg) (S.1 3 4).toNatClampNeg)]) (rest := []) ⟨hx, hb, hml, hown, ht⟩ (c_Law_mayFollow l D cA ad hI s.heap.size (S.1 (10 + (S.1 3 3).toNatClampNeg) ((S.1 3 4) - (1 : Int32)).toNatClampNeg) (S.1 (10 + (S.1 3 3).toNatClampNeg) (S.1 3 4).toNatClampNeg) S (fun hn => hs (by rw [hn] at hf; exact hf.symm))) (cwV 2 ht (good_G (gV mM_Search_45 mI_Law_mayFollow mV_Law_mayFollow mN_Law mk_Law_mayFollow)) rfl rfl rfl (by decide +kernel) ⟨Nat.le_of_ble_eq_true rfl, Nat.le_of_ble_eq_true rfl⟩) ⟨fun a U g mk q => ⟨q.1, q.2.1, q.2.2.1, va_K.moved (u := U) (U := U.calling g mk a) (Vm.Alike.refl U.vm) q.2.2.2⟩, va_recv hK hP (ci := 1) (q0 := 1) rfl Xa_1, fun U hU hW => ⟨rfl, by rw [hU], by rw [hU]; exact hP, va_K.moved hW.alike hK⟩⟩ rfl rfl hl.1 rfl (lv_room (Nat.le_of_ble_eq_true rfl)) d_Search_stands_38 ⟨Nat.le_of_ble_eq_true rfl, Nat.le_of_ble_eq_true rfl⟩) hS (fun q _ h => hAS _ hS.1 q h) (fun q h => hAS _ hS.1 q h) (fun r2 _ t H locs ht9 hvm hw hB hz1 hk1 hS => ?_)
    obtain ⟨hP, hK9⟩ := hB
    rw [ht9] at hP
    obtain ⟨hw, hz2⟩ := hw
    rw [hw, Option.bind_some] at hf
    refine lv_if_ne (tgt := 46) hx hb d_Search_stands_41 (by decide) (fun c7 => ?_) (fun c7 => ?_)
    · rw [if_neg c7] at hf
      refine lv_aload_n hx hb d_Search_stands_46 rfl (lv_at hl 1 rfl) ?_
      refine va_get (D := D) (ci := 3) (v := .int (S.1 3 4)) (C := R_Search) (T := T_Search) (N := 5) hx hb ht i_Search hown hK hP 3 Xa_3 rfl 4 (by decide) (ht _ mF_Search_26) (fun _ h9 => h9) rfl d_Search_stands_47 ?_
      refine lv_aload_n hx hb d_Search_stands_50 rfl (lv_at hl 1 rfl) ?_
      refine va_get (D := D) (ci := 3) (v := .ref (ad 1)) (C := R_Search) (T := T_Search) (N := 5) hx hb ht i_Search hown hK hP 3 Xa_3 rfl 0 (by decide) (ht _ mF_Search_9) (fun _ h9 => h9) rfl d_Search_stands_51 ?_
      refine va_get (D := D) (ci := 1) (v := .int (S.1 1 0)) (C := R_Law) (T := T_Law) (N := 5) hx hb ht i_Law hown hK hP 1 Xa_1 rfl 0 (by decide) (ht _ mF_Search_51) (fun _ h9 => h9) rfl d_Search_stands_54 ?_
      refine lv_iconst (v := 1) hx hb d_Search_stands_57 (by decide) ?_
      refine lv_isub hx hb d_Search_stands_58 ?_
      refine lv_icmp_lt (tgt := 76) hx hb d_Search_stands_59 (by decide) (fun c8 => ?_) (fun c8 => ?_)
      · rw [if_pos c8] at hf
        refine lv_iconst (v := 1) hx hb d_Search_stands_76 (by decide) ?_
        refine lv_goto (tgt := 81) hx hb d_Search_stands_77 (by decide) ?_
        rw [← hQ]
        have hz : (1 : Int32) = 0 ∨ (1 : Int32) = 1 := Or.inr rfl
        exact W.zret (v := (1 : Int32)) hx hb hr (zb_n hz) (fun t ht hW => ⟨⟨(1 : Int32), S, rfl, ⟨hf.symm, hz⟩, by rw [ht]; exact hP, va_K.moved hW.alike hK⟩, hS.F ht⟩) hS.2.2 d_Search_stands_81
      · rw [if_neg c8] at hf
        refine lv_aload_n hx hb d_Search_stands_62 rfl (lv_at hl 1 rfl) ?_
        refine va_get (D := D) (ci := 3) (v := .ref (ad 2)) (C := R_Search) (T := T_Search) (N := 5) hx hb ht i_Search hown hK hP 3 Xa_3 rfl 1 (by decide) (ht _ mF_Search_15) (fun _ h9 => h9) rfl d_Search_stands_63 ?_
        refine lv_aload_n hx hb d_Search_stands_66 rfl (lv_at hl 1 rfl) ?_
        refine va_get (D := D) (ci := 3) (v := .int (S.1 3 3)) (C := R_Search) (T := T_Search) (N := 5) hx hb ht i_Search hown hK hP 3 Xa_3 rfl 3 (by decide) (ht _ mF_Search_23) (fun _ h9 => h9) rfl d_Search_stands_67 ?_
        refine va_calli (va_runV (As := [.int (S.1 3 3)]) (rest := []) ⟨hx, hb, hml, hown, ht⟩ (c_Board_accepts l D cA ad hI H.size (S.1 3 3) S (fun hn => hs (by rw [hn] at hf; exact hf.symm))) (cwV 1 ht (good_G (gV mM_Search_54 mI_Board_accepts mV_Board_accepts mN_Board mk_Board_accepts)) rfl rfl rfl (by decide +kernel) ⟨Nat.le_of_ble_eq_true rfl, Nat.le_of_ble_eq_true rfl⟩) ⟨fun a U g mk q => ⟨q.1, q.2.1, q.2.2.1, va_K.moved (u := U) (U := U.calling g mk a) (Vm.Alike.refl U.vm) q.2.2.2⟩, va_recv hK hP (ci := 2) (q0 := 2) rfl Xa_2, fun U hU hW => ⟨rfl, by rw [hU], by rw [hU]; exact hP, va_K.moved hW.alike hK⟩⟩ rfl rfl hl.1 rfl (lv_room (Nat.le_of_ble_eq_true rfl)) d_Search_stands_70 ⟨Nat.le_of_ble_eq_true rfl, Nat.le_of_ble_eq_true rfl⟩) hS (fun q _ h => hAS _ hS.1 q h) (fun q h => hAS _ hS.1 q h) (fun r3 u3 t H locs ht9 hvm hw hB hz1 hk1 hS => ?_)
        obtain ⟨hP, hK9⟩ := hB
        rw [ht9] at hP
        obtain ⟨hw, hz3⟩ := hw
        rw [hw, Option.bind_some] at hf
        dsimp only at hf
        refine lv_if_eq (tgt := 80) hx hb d_Search_stands_73 (by decide) (fun c9 => ?_) (fun c9 => ?_)
        · rw [if_pos c9] at hf
          refine lv_iconst (v := 0) hx hb d_Search_stands_80 (by decide) ?_
          rw [← hQ]
          have hz : (0 : Int32) = 0 ∨ (0 : Int32) = 1 := Or.inl rfl
          exact W.zret (v := (0 : Int32)) hx hb hr (zb_n hz) (fun t ht hW => ⟨⟨(0 : Int32), u3, rfl, ⟨hf.symm, hz⟩, by rw [ht]; exact hP, va_K.moved hW.alike hK⟩, hS.F ht⟩) hS.2.2 d_Search_stands_81
        · rw [if_neg c9] at hf
          refine lv_iconst (v := 1) hx hb d_Search_stands_76 (by decide) ?_
          refine lv_goto (tgt := 81) hx hb d_Search_stands_77 (by decide) ?_
          rw [← hQ]
          have hz : (1 : Int32) = 0 ∨ (1 : Int32) = 1 := Or.inr rfl
          exact W.zret (v := (1 : Int32)) hx hb hr (zb_n hz) (fun t ht hW => ⟨⟨(1 : Int32), u3, rfl, ⟨hf.symm, hz⟩, by rw [ht]; exact hP, va_K.moved hW.alike hK⟩, hS.F ht⟩) hS.2.2 d_Search_stands_81
    · rw [if_pos c7] at hf
      refine lv_iconst (v := 0) hx hb d_Search_stands_44 (by decide) ?_
      rw [← hQ]
      have hz : (0 : Int32) = 0 ∨ (0 : Int32) = 1 := Or.inl rfl
      exact W.zret (v := (0 : Int32)) hx hb hr (zb_n hz) (fun t ht hW => ⟨⟨(0 : Int32), S, rfl, ⟨hf.symm, hz⟩, by rw [ht]; exact hP, va_K.moved hW.alike hK⟩, hS.F ht⟩) hS.2.2 d_Search_stands_45
set_option maxHeartbeats 4000000 in
set_option maxRecDepth 100000 in
theorem c_Search_goBack (l : Launch) (D : va_G) (cA : Nat → ClassId) (ad : Nat → Nat) (hI : InjA ad) (sz : Nat) (S : SS) (hs : f_Search_goBack S ≠ none) : Met l y_Search_goBack w_Search_goBack ({ frames := 0, cells := 0, slots := 0, locals := 0 }) (va_Pc [.ref (ad 3)] (fun U => U.heap.size = sz ∧ va_P D vwCl (X cA ad S) U.heap ∧ va_K D vwCl (tysX cA) U)) (va_Qi (fun (r : Int32) (u : SS) => f_Search_goBack S = some (r, u) ∧ (r = 0 ∨ r = 1)) (fun (u : SS) t => va_P D vwCl (X cA ad u) t.heap ∧ va_K D vwCl (tysX cA) t) (AS ad sz)) 0 0 (AS ad sz) := by
  refine Met.ofW (cc := b_Search_goBack) (maxL := 1) (ret := (some .boolean)) (by decide) rfl ?_
  intro p e s m args below meth c s₁ B hml hv
  obtain ⟨rfl, hsz, hP, hK⟩ := hv
  have hx := B.exec
  have hb := B.bytes
  have hr := B.returns
  have hts := atoms_spec (ws := w_Search_goBack) B.pre
  have ht := fun w h => hts w (List.mem_cons_of_mem _ h)
  have hown : s.vm.findClass R_Search = some m.cls := findClass_of_methodNamed B.named
  have hlocks := B.notSynchronized
  subst hsz
  have hAd : ∀ q, q < NP → AS ad s.heap.size (ad q) := fun q h => Or.inl ⟨q, h, rfl⟩
  have hA : ∀ q : Nat, s.heap.size ≤ q → AS ad s.heap.size q := fun q h => Or.inr h
  have hAS : ∀ z : Nat, s.heap.size ≤ z → ∀ q : Nat, AS ad z q → AS ad s.heap.size q := fun z h q hq => hq.elim Or.inl (fun g => Or.inr (Nat.le_trans h g))
  generalize hAe : AS ad s.heap.size = A at hAd hA hAS ⊢
  have hS : va_S A s.heap s.heap [] := va_S.rf
  have hl := lv_entry ([.ref (ad 3)]) (n := 1) (Nat.le_of_ble_eq_true rfl)
  rw [lg_entry_eq]
  generalize (lg_sl ([.ref (ad 3)]) ++ List.replicate (1 - (lg_sl ([.ref (ad 3)])).length) Slot.unset).toArray = ls at hl ⊢
  have hl : lv_has ls 1 [(0, .ref (ad 3))] := hl
  have hf := (f_Search_goBack_s S).symm
  generalize hQ : MQ below _ _ s _ _ _ = Q
  have lp0_1 : ∀ (n : Nat) (Sx : SS) (H : Heap) (locs : List Loc) (ls : Array Slot), va_P D vwCl (X cA ad Sx) H → va_S A s.heap H locs → lv_has ls 1 [(0, .ref (ad 3))] → f_Search_goBack_L0 n Sx ≠ none →
      (∀ o : Int32 × SS, f_Search_goBack_L0 n Sx = some (.inl o) → f_Search_goBack S = some o) →
      (∀ v : SS, f_Search_goBack_L0 n Sx = some (.inr v) → ∀ (H : Heap) (locs : List Loc) (ls : Array Slot), va_P D vwCl (X cA ad v) H → va_S A s.heap H locs → lv_has ls 1 [(0, .ref (ad 3))] → W p l e (headSpec w_Search_goBack ({ frames := 0, cells := 0, slots := 0, locals := 0 })).room s m ([.ref (ad 3)] : List Value).toArray below meth c H locs 0 0 Q (F0 m 84 ls [])) →
      W p l e (headSpec w_Search_goBack ({ frames := 0, cells := 0, slots := 0, locals := 0 })).room s m ([.ref (ad 3)] : List Value).toArray below meth c H locs 0 0 Q (F0 m 0 ls []) := by
    intro n
    induction n with
    | zero => intro Sx H locs ls hP hS hl hs; exact absurd rfl hs
    | succ n ih =>
      intro Sx H locs ls hP hS hl hs hret hexit
      have hf := (f_Search_goBack_L0_s n Sx).symm
      refine lv_aload_n hx hb d_Search_goBack_0 rfl (lv_at hl 0 rfl) ?_
      refine va_get (D := D) (ci := 3) (v := .int (Sx.1 3 3)) (C := R_Search) (T := T_Search) (N := 5) hx hb ht i_Search hown hK hP 3 Xa_3 rfl 3 (by decide) (ht _ mF_Search_23) (fun _ h9 => h9) rfl d_Search_goBack_1 ?_
      refine lv_if_lt (tgt := 84) hx hb d_Search_goBack_4 (by decide) (fun c1 => ?_) (fun c1 => ?_)
      · rw [if_pos c1] at hf
        exact hexit _ hf.symm _ _ _ hP hS (lv_sub hl [0] rfl)
      · rw [if_neg c1] at hf
        have lp7_2 : ∀ (n : Nat) (Sx : SS) (H : Heap) (locs : List Loc) (ls : Array Slot), va_P D vwCl (X cA ad Sx) H → va_S A s.heap H locs → lv_has ls 1 [(0, .ref (ad 3))] → f_Search_goBack_L7 n Sx ≠ none →
            (∀ o : Int32 × SS, f_Search_goBack_L7 n Sx = some (.inl o) → f_Search_goBack S = some o) →
            (∀ v : SS, f_Search_goBack_L7 n Sx = some (.inr v) → ∀ (H : Heap) (locs : List Loc) (ls : Array Slot), va_P D vwCl (X cA ad v) H → va_S A s.heap H locs → lv_has ls 1 [(0, .ref (ad 3))] → W p l e (headSpec w_Search_goBack ({ frames := 0, cells := 0, slots := 0, locals := 0 })).room s m ([.ref (ad 3)] : List Value).toArray below meth c H locs 0 0 Q (F0 m 58 ls [])) →
            W p l e (headSpec w_Search_goBack ({ frames := 0, cells := 0, slots := 0, locals := 0 })).room s m ([.ref (ad 3)] : List Value).toArray below meth c H locs 0 0 Q (F0 m 7 ls []) := by
          intro n
          induction n with
          | zero => intro Sx H locs ls hP hS hl hs; exact absurd rfl hs
          | succ n ih =>
            intro Sx H locs ls hP hS hl hs hret hexit
            have hf := (f_Search_goBack_L7_s n Sx).symm
            refine lv_aload_n hx hb d_Search_goBack_7 rfl (lv_at hl 0 rfl) ?_
            refine va_get (D := D) (ci := 3) (v := .int (Sx.1 3 4)) (C := R_Search) (T := T_Search) (N := 5) hx hb ht i_Search hown hK hP 3 Xa_3 rfl 4 (by decide) (ht _ mF_Search_26) (fun _ h9 => h9) rfl d_Search_goBack_8 ?_
            refine lv_if_lt (tgt := 58) hx hb d_Search_goBack_11 (by decide) (fun c2 => ?_) (fun c2 => ?_)
            · rw [if_pos c2] at hf
              exact hexit _ hf.symm _ _ _ hP hS (lv_sub hl [0] rfl)
            · rw [if_neg c2] at hf
              refine lv_aload_n hx hb d_Search_goBack_14 rfl (lv_at hl 0 rfl) ?_
              refine va_get (D := D) (ci := 3) (v := .ref (ad 2)) (C := R_Search) (T := T_Search) (N := 5) hx hb ht i_Search hown hK hP 3 Xa_3 rfl 1 (by decide) (ht _ mF_Search_15) (fun _ h9 => h9) rfl d_Search_goBack_15 ?_
              refine va_get (D := D) (ci := 2) (v := .ref (ad 6)) (C := R_Board) (T := T_Board) (N := 7) hx hb ht i_Board hown hK hP 2 Xa_2 rfl 4 (by decide) (ht _ mF_Search_29) (fun _ h9 => h9) rfl d_Search_goBack_18 ?_
              refine lv_aload_n hx hb d_Search_goBack_21 rfl (lv_at hl 0 rfl) ?_
              refine va_get (D := D) (ci := 3) (v := .int (Sx.1 3 3)) (C := R_Search) (T := T_Search) (N := 5) hx hb ht i_Search hown hK hP 3 Xa_3 rfl 3 (by decide) (ht _ mF_Search_23) (fun _ h9 => h9) rfl d_Search_goBack_22 ?_
              by_cases b3 : oob (Sx.1 3 3) 8
              · rw [if_pos b3] at hf; exact absurd hf.symm hs
              rw [if_neg b3] at hf
              refine gz_aald hx hb hK hP 6 2 Xa_6 rfl b3 d_Search_goBack_25 ?_
              rw [X_row b3]
              refine lv_aload_n hx hb d_Search_goBack_26 rfl (lv_at hl 0 rfl) ?_
              refine va_get (D := D) (ci := 3) (v := .int (Sx.1 3 4)) (C := R_Search) (T := T_Search) (N := 5) hx hb ht i_Search hown hK hP 3 Xa_3 rfl 4 (by decide) (ht _ mF_Search_26) (fun _ h9 => h9) rfl d_Search_goBack_27 ?_
              by_cases b4 : oob (Sx.1 3 4) 6
              · rw [if_pos b4] at hf; exact absurd hf.symm hs
              rw [if_neg b4] at hf
              refine va_iald (f := Sx.1 (10 + (Sx.1 3 3).toNatClampNeg)) hx hb hK hP (10 + (Sx.1 3 3).toNatClampNeg) 0 (X_rowat6 b3) rfl b4 d_Search_goBack_30 ?_
              refine lv_aload_n hx hb d_Search_goBack_31 rfl (lv_at hl 0 rfl) ?_
              refine va_get (D := D) (ci := 3) (v := .ref (ad 1)) (C := R_Search) (T := T_Search) (N := 5) hx hb ht i_Search hown hK hP 3 Xa_3 rfl 0 (by decide) (ht _ mF_Search_9) (fun _ h9 => h9) rfl d_Search_goBack_32 ?_
              refine va_get (D := D) (ci := 1) (v := .int (Sx.1 1 1)) (C := R_Law) (T := T_Law) (N := 5) hx hb ht i_Law hown hK hP 1 Xa_1 rfl 1 (by decide) (ht _ mF_Search_61) (fun _ h9 => h9) rfl d_Search_goBack_35 ?_
              refine lv_iconst (v := 1) hx hb d_Search_goBack_38 (by decide) ?_
              refine lv_isub hx hb d_Search_goBack_39 ?_
              refine lv_icmp_ge (tgt := 45) hx hb d_Search_goBack_40 (by decide) (fun c5 => ?_) (fun c5 => ?_)
              · rw [if_pos c5] at hf
                refine lv_aload_n hx hb d_Search_goBack_45 rfl (lv_at hl 0 rfl) ?_
                refine lv_dup hx hb d_Search_goBack_46 rfl ?_
                refine va_get (D := D) (ci := 3) (v := .int (Sx.1 3 4)) (C := R_Search) (T := T_Search) (N := 5) hx hb ht i_Search hown hK hP 3 Xa_3 rfl 4 (by decide) (ht _ mF_Search_26) (fun _ h9 => h9) rfl d_Search_goBack_47 ?_
                refine lv_iconst (v := 1) hx hb d_Search_goBack_50 (by decide) ?_
                refine lv_isub hx hb d_Search_goBack_51 ?_
                refine va_put (D := D) (ci := 3) (v := .int ((Sx.1 3 4) - (1 : Int32))) (ty := .int) (C := R_Search) (T := T_Search) (N := 5) hx hb ht i_Search t_Search t_Search_ok n_Search hown hK hP (X_D hI hAd) hS 3 Xa_3 rfl 4 (by decide) (ht _ mF_Search_26) (fun _ h9 => h9) rfl (by decide +kernel) rfl rfl (Nat.le_of_ble_eq_true rfl) d_Search_goBack_52 (fun H locs hP _ hS => ?_)
                replace hP := X_putI (by decide) hP rfl
                refine lv_goto (tgt := 7) hx hb d_Search_goBack_55 (by decide) ?_
                exact ih (wI Sx 3 4 ((Sx.1 3 4) - (1 : Int32))) _ _ _ hP hS (lv_sub hl [0] rfl) (fun hn => hs (hf.symm.trans hn)) (fun o ho => hret o (hf.symm.trans ho)) (fun v ho => hexit v (hf.symm.trans ho))
              · rw [if_neg c5] at hf
                refine lv_iconst (v := 1) hx hb d_Search_goBack_43 (by decide) ?_
                rw [← hQ]
                have hz : (1 : Int32) = 0 ∨ (1 : Int32) = 1 := Or.inr rfl
                exact W.zret (v := (1 : Int32)) hx hb hr (zb_n hz) (fun t ht hW => ⟨⟨(1 : Int32), Sx, rfl, ⟨hret _ hf.symm, hz⟩, by rw [ht]; exact hP, va_K.moved hW.alike hK⟩, hS.F ht⟩) hS.2.2 d_Search_goBack_44
        refine lp7_2 FU Sx _ _ _ hP hS (lv_sub hl [0] rfl) (fun hn => ?_) (fun o ho => ?_) (fun v6 hvv6 H locs ls hP hS hl => ?_)
        · rw [hn] at hf; exact hs hf.symm
        · rw [ho, Option.bind_some, Sum.elim_inl] at hf; exact hret _ hf.symm
        · rw [hvv6, Option.bind_some, Sum.elim_inr] at hf
          refine lv_aload_n hx hb d_Search_goBack_58 rfl (lv_at hl 0 rfl) ?_
          refine lv_aload_n hx hb d_Search_goBack_59 rfl (lv_at hl 0 rfl) ?_
          refine va_get (D := D) (ci := 3) (v := .ref (ad 1)) (C := R_Search) (T := T_Search) (N := 5) hx hb ht i_Search hown hK hP 3 Xa_3 rfl 0 (by decide) (ht _ mF_Search_9) (fun _ h9 => h9) rfl d_Search_goBack_60 ?_
          refine va_get (D := D) (ci := 1) (v := .int (v6.1 1 0)) (C := R_Law) (T := T_Law) (N := 5) hx hb ht i_Law hown hK hP 1 Xa_1 rfl 0 (by decide) (ht _ mF_Search_51) (fun _ h9 => h9) rfl d_Search_goBack_63 ?_
          refine lv_iconst (v := 1) hx hb d_Search_goBack_66 (by decide) ?_
          refine lv_isub hx hb d_Search_goBack_67 ?_
          refine va_put (D := D) (ci := 3) (v := .int ((v6.1 1 0) - (1 : Int32))) (ty := .int) (C := R_Search) (T := T_Search) (N := 5) hx hb ht i_Search t_Search t_Search_ok n_Search hown hK hP (X_D hI hAd) hS 3 Xa_3 rfl 4 (by decide) (ht _ mF_Search_26) (fun _ h9 => h9) rfl (by decide +kernel) rfl rfl (Nat.le_of_ble_eq_true rfl) d_Search_goBack_68 (fun H locs hP _ hS => ?_)
          replace hP := X_putI (by decide) hP rfl
          refine lv_aload_n hx hb d_Search_goBack_71 rfl (lv_at hl 0 rfl) ?_
          refine lv_dup hx hb d_Search_goBack_72 rfl ?_
          refine va_get (D := D) (ci := 3) (v := .int (v6.1 3 3)) (C := R_Search) (T := T_Search) (N := 5) hx hb ht i_Search hown hK hP 3 Xa_3 rfl 3 (by decide) (ht _ mF_Search_23) (fun _ h9 => h9) rfl d_Search_goBack_73 ?_
          refine lv_iconst (v := 1) hx hb d_Search_goBack_76 (by decide) ?_
          refine lv_isub hx hb d_Search_goBack_77 ?_
          refine va_put (D := D) (ci := 3) (v := .int ((v6.1 3 3) - (1 : Int32))) (ty := .int) (C := R_Search) (T := T_Search) (N := 5) hx hb ht i_Search t_Search t_Search_ok n_Search hown hK hP (X_D hI hAd) hS 3 Xa_3 rfl 3 (by decide) (ht _ mF_Search_23) (fun _ h9 => h9) rfl (by decide +kernel) rfl rfl (Nat.le_of_ble_eq_true rfl) d_Search_goBack_78 (fun H locs hP _ hS => ?_)
          replace hP := X_putI (by decide) hP rfl
          refine lv_goto (tgt := 0) hx hb d_Search_goBack_81 (by decide) ?_
          exact ih (wI (wI v6 3 4 ((v6.1 1 0) - (1 : Int32))) 3 3 ((v6.1 3 3) - (1 : Int32))) _ _ _ hP hS (lv_sub hl [0] rfl) (fun hn => hs (hf.symm.trans hn)) (fun o ho => hret o (hf.symm.trans ho)) (fun v ho => hexit v (hf.symm.trans ho))
  refine lp0_1 FU S _ _ _ hP hS (lv_sub hl [0] rfl) (fun hn => ?_) (fun o ho => ?_) (fun v7 hvv7 H locs ls hP hS hl => ?_)
  · rw [hn] at hf; exact hs hf.symm
  · rw [ho, Option.bind_some, Sum.elim_inl] at hf; exact hf.symm
  · rw [hvv7, Option.bind_some, Sum.elim_inr] at hf
    refine lv_iconst (v := 0) hx hb d_Search_goBack_84 (by decide) ?_
    rw [← hQ]
    have hz : (0 : Int32) = 0 ∨ (0 : Int32) = 1 := Or.inl rfl
    exact W.zret (v := (0 : Int32)) hx hb hr (zb_n hz) (fun t ht hW => ⟨⟨(0 : Int32), v7, rfl, ⟨hf.symm, hz⟩, by rw [ht]; exact hP, va_K.moved hW.alike hK⟩, hS.F ht⟩) hS.2.2 d_Search_goBack_85
set_option maxHeartbeats 4000000 in
set_option maxRecDepth 100000 in
theorem c_Search_goOn (l : Launch) (D : va_G) (cA : Nat → ClassId) (ad : Nat → Nat) (hI : InjA ad) (sz : Nat) (S : SS) (hs : f_Search_goOn S ≠ none) : Met l y_Search_goOn w_Search_goOn ({ frames := 0, cells := 0, slots := 0, locals := 0 }) (va_Pc [.ref (ad 3)] (fun U => U.heap.size = sz ∧ va_P D vwCl (X cA ad S) U.heap ∧ va_K D vwCl (tysX cA) U)) (va_Qi (fun (r : Int32) (u : SS) => f_Search_goOn S = some (r, u) ∧ (r = 0 ∨ r = 1)) (fun (u : SS) t => va_P D vwCl (X cA ad u) t.heap ∧ va_K D vwCl (tysX cA) t) (AS ad sz)) 0 0 (AS ad sz) := by
  refine Met.ofW (cc := b_Search_goOn) (maxL := 1) (ret := (some .boolean)) (by decide) rfl ?_
  intro p e s m args below meth c s₁ B hml hv
  obtain ⟨rfl, hsz, hP, hK⟩ := hv
  have hx := B.exec
  have hb := B.bytes
  have hr := B.returns
  have hts := atoms_spec (ws := w_Search_goOn) B.pre
  have ht := fun w h => hts w (List.mem_cons_of_mem _ h)
  have hown : s.vm.findClass R_Search = some m.cls := findClass_of_methodNamed B.named
  have hlocks := B.notSynchronized
  subst hsz
  have hAd : ∀ q, q < NP → AS ad s.heap.size (ad q) := fun q h => Or.inl ⟨q, h, rfl⟩
  have hA : ∀ q : Nat, s.heap.size ≤ q → AS ad s.heap.size q := fun q h => Or.inr h
  have hAS : ∀ z : Nat, s.heap.size ≤ z → ∀ q : Nat, AS ad z q → AS ad s.heap.size q := fun z h q hq => hq.elim Or.inl (fun g => Or.inr (Nat.le_trans h g))
  generalize hAe : AS ad s.heap.size = A at hAd hA hAS ⊢
  have hS : va_S A s.heap s.heap [] := va_S.rf
  have hl := lv_entry ([.ref (ad 3)]) (n := 1) (Nat.le_of_ble_eq_true rfl)
  rw [lg_entry_eq]
  generalize (lg_sl ([.ref (ad 3)]) ++ List.replicate (1 - (lg_sl ([.ref (ad 3)])).length) Slot.unset).toArray = ls at hl ⊢
  have hl : lv_has ls 1 [(0, .ref (ad 3))] := hl
  have hf := (f_Search_goOn_s S).symm
  generalize hQ : MQ below _ _ s _ _ _ = Q
  refine lv_aload_n hx hb d_Search_goOn_0 rfl (lv_at hl 0 rfl) ?_
  refine va_get (D := D) (ci := 3) (v := .int (S.1 3 4)) (C := R_Search) (T := T_Search) (N := 5) hx hb ht i_Search hown hK hP 3 Xa_3 rfl 4 (by decide) (ht _ mF_Search_26) (fun _ h9 => h9) rfl d_Search_goOn_1 ?_
  refine lv_aload_n hx hb d_Search_goOn_4 rfl (lv_at hl 0 rfl) ?_
  refine va_get (D := D) (ci := 3) (v := .ref (ad 1)) (C := R_Search) (T := T_Search) (N := 5) hx hb ht i_Search hown hK hP 3 Xa_3 rfl 0 (by decide) (ht _ mF_Search_9) (fun _ h9 => h9) rfl d_Search_goOn_5 ?_
  refine va_get (D := D) (ci := 1) (v := .int (S.1 1 0)) (C := R_Law) (T := T_Law) (N := 5) hx hb ht i_Law hown hK hP 1 Xa_1 rfl 0 (by decide) (ht _ mF_Search_51) (fun _ h9 => h9) rfl d_Search_goOn_8 ?_
  refine lv_iconst (v := 1) hx hb d_Search_goOn_11 (by decide) ?_
  refine lv_isub hx hb d_Search_goOn_12 ?_
  refine lv_icmp_ge (tgt := 29) hx hb d_Search_goOn_13 (by decide) (fun c1 => ?_) (fun c1 => ?_)
  · rw [if_pos c1] at hf
    refine lv_aload_n hx hb d_Search_goOn_29 rfl (lv_at hl 0 rfl) ?_
    refine va_get (D := D) (ci := 3) (v := .int (S.1 3 3)) (C := R_Search) (T := T_Search) (N := 5) hx hb ht i_Search hown hK hP 3 Xa_3 rfl 3 (by decide) (ht _ mF_Search_23) (fun _ h9 => h9) rfl d_Search_goOn_30 ?_
    refine lv_aload_n hx hb d_Search_goOn_33 rfl (lv_at hl 0 rfl) ?_
    refine va_get (D := D) (ci := 3) (v := .ref (ad 2)) (C := R_Search) (T := T_Search) (N := 5) hx hb ht i_Search hown hK hP 3 Xa_3 rfl 1 (by decide) (ht _ mF_Search_15) (fun _ h9 => h9) rfl d_Search_goOn_34 ?_
    refine va_get (D := D) (ci := 2) (v := .int (S.1 2 1)) (C := R_Board) (T := T_Board) (N := 7) hx hb ht i_Board hown hK hP 2 Xa_2 rfl 1 (by decide) (ht _ mF_Search_58) (fun _ h9 => h9) rfl d_Search_goOn_37 ?_
    refine lv_iconst (v := 1) hx hb d_Search_goOn_40 (by decide) ?_
    refine lv_isub hx hb d_Search_goOn_41 ?_
    refine lv_icmp_ge (tgt := 63) hx hb d_Search_goOn_42 (by decide) (fun c2 => ?_) (fun c2 => ?_)
    · rw [if_pos c2] at hf
      refine lv_iconst (v := 0) hx hb d_Search_goOn_63 (by decide) ?_
      rw [← hQ]
      have hz : (0 : Int32) = 0 ∨ (0 : Int32) = 1 := Or.inl rfl
      exact W.zret (v := (0 : Int32)) hx hb hr (zb_n hz) (fun t ht hW => ⟨⟨(0 : Int32), S, rfl, ⟨hf.symm, hz⟩, by rw [ht]; exact hP, va_K.moved hW.alike hK⟩, hS.F ht⟩) hS.2.2 d_Search_goOn_64
    · rw [if_neg c2] at hf
      refine lv_aload_n hx hb d_Search_goOn_45 rfl (lv_at hl 0 rfl) ?_
      refine lv_dup hx hb d_Search_goOn_46 rfl ?_
      refine va_get (D := D) (ci := 3) (v := .int (S.1 3 3)) (C := R_Search) (T := T_Search) (N := 5) hx hb ht i_Search hown hK hP 3 Xa_3 rfl 3 (by decide) (ht _ mF_Search_23) (fun _ h9 => h9) rfl d_Search_goOn_47 ?_
      refine lv_iconst (v := 1) hx hb d_Search_goOn_50 (by decide) ?_
      refine lv_iadd hx hb d_Search_goOn_51 ?_
      refine va_put (D := D) (ci := 3) (v := .int ((S.1 3 3) + (1 : Int32))) (ty := .int) (C := R_Search) (T := T_Search) (N := 5) hx hb ht i_Search t_Search t_Search_ok n_Search hown hK hP (X_D hI hAd) hS 3 Xa_3 rfl 3 (by decide) (ht _ mF_Search_23) (fun _ h9 => h9) rfl (by decide +kernel) rfl rfl (Nat.le_of_ble_eq_true rfl) d_Search_goOn_52 (fun H locs hP _ hS => ?_)
      replace hP := X_putI (by decide) hP rfl
      refine lv_aload_n hx hb d_Search_goOn_55 rfl (lv_at hl 0 rfl) ?_
      refine lv_iconst (v := 0) hx hb d_Search_goOn_56 (by decide) ?_
      refine va_put (D := D) (ci := 3) (v := .int (0 : Int32)) (ty := .int) (C := R_Search) (T := T_Search) (N := 5) hx hb ht i_Search t_Search t_Search_ok n_Search hown hK hP (X_D hI hAd) hS 3 Xa_3 rfl 4 (by decide) (ht _ mF_Search_26) (fun _ h9 => h9) rfl (by decide +kernel) rfl rfl (Nat.le_of_ble_eq_true rfl) d_Search_goOn_57 (fun H locs hP _ hS => ?_)
      replace hP := X_putI (by decide) hP rfl
      refine lv_goto (tgt := 65) hx hb d_Search_goOn_60 (by decide) ?_
      refine lv_aload_n hx hb d_Search_goOn_65 rfl (lv_at hl 0 rfl) ?_
      refine va_get (D := D) (ci := 3) (v := .ref (ad 2)) (C := R_Search) (T := T_Search) (N := 5) hx hb ht i_Search hown hK hP 3 Xa_3 rfl 1 (by decide) (ht _ mF_Search_15) (fun _ h9 => h9) rfl d_Search_goOn_66 ?_
      refine va_get (D := D) (ci := 2) (v := .ref (ad 6)) (C := R_Board) (T := T_Board) (N := 7) hx hb ht i_Board hown hK hP 2 Xa_2 rfl 4 (by decide) (ht _ mF_Search_29) (fun _ h9 => h9) rfl d_Search_goOn_69 ?_
      refine lv_aload_n hx hb d_Search_goOn_72 rfl (lv_at hl 0 rfl) ?_
      refine va_get (D := D) (ci := 3) (v := .int ((S.1 3 3) + (1 : Int32))) (C := R_Search) (T := T_Search) (N := 5) hx hb ht i_Search hown hK hP 3 Xa_3 rfl 3 (by decide) (ht _ mF_Search_23) (fun _ h9 => h9) rfl d_Search_goOn_73 ?_
      by_cases b3 : oob ((S.1 3 3) + (1 : Int32)) 8
      · rw [if_pos b3] at hf; exact absurd hf.symm hs
      rw [if_neg b3] at hf
      refine gz_aald hx hb hK hP 6 2 Xa_6 rfl b3 d_Search_goOn_76 ?_
      rw [X_row b3]
      refine lv_aload_n hx hb d_Search_goOn_77 rfl (lv_at hl 0 rfl) ?_
      refine va_get (D := D) (ci := 3) (v := .int (0 : Int32)) (C := R_Search) (T := T_Search) (N := 5) hx hb ht i_Search hown hK hP 3 Xa_3 rfl 4 (by decide) (ht _ mF_Search_26) (fun _ h9 => h9) rfl d_Search_goOn_78 ?_
      refine lv_iconst (v := (-1)) hx hb d_Search_goOn_81 (by decide) ?_
      by_cases b4 : oob (0 : Int32) 6
      · rw [if_pos b4] at hf; exact absurd hf.symm hs
      rw [if_neg b4] at hf
      refine va_iast hx hb hK hP (X_D hI hAd) hS (10 + ((S.1 3 3) + (1 : Int32)).toNatClampNeg) 0 (X_rowat6 b3) rfl b4 d_Search_goOn_82 (fun H locs hP _ hS => ?_)
      replace hP := X_stI (X_rowlt6 b3) (X_rowcell6 b3) hP
      refine lv_iconst (v := 1) hx hb d_Search_goOn_83 (by decide) ?_
      rw [← hQ]
      have hz : (1 : Int32) = 0 ∨ (1 : Int32) = 1 := Or.inr rfl
      exact W.zret (v := (1 : Int32)) hx hb hr (zb_n hz) (fun t ht hW => ⟨⟨(1 : Int32), wI (wI (wI S 3 3 ((S.1 3 3) + (1 : Int32))) 3 4 (0 : Int32)) (10 + ((S.1 3 3) + (1 : Int32)).toNatClampNeg) (0 : Int32).toNatClampNeg (-1 : Int32), rfl, ⟨hf.symm, hz⟩, by rw [ht]; exact hP, va_K.moved hW.alike hK⟩, hS.F ht⟩) hS.2.2 d_Search_goOn_84
  · rw [if_neg c1] at hf
    refine lv_aload_n hx hb d_Search_goOn_16 rfl (lv_at hl 0 rfl) ?_
    refine lv_dup hx hb d_Search_goOn_17 rfl ?_
    refine va_get (D := D) (ci := 3) (v := .int (S.1 3 4)) (C := R_Search) (T := T_Search) (N := 5) hx hb ht i_Search hown hK hP 3 Xa_3 rfl 4 (by decide) (ht _ mF_Search_26) (fun _ h9 => h9) rfl d_Search_goOn_18 ?_
    refine lv_iconst (v := 1) hx hb d_Search_goOn_21 (by decide) ?_
    refine lv_iadd hx hb d_Search_goOn_22 ?_
    refine va_put (D := D) (ci := 3) (v := .int ((S.1 3 4) + (1 : Int32))) (ty := .int) (C := R_Search) (T := T_Search) (N := 5) hx hb ht i_Search t_Search t_Search_ok n_Search hown hK hP (X_D hI hAd) hS 3 Xa_3 rfl 4 (by decide) (ht _ mF_Search_26) (fun _ h9 => h9) rfl (by decide +kernel) rfl rfl (Nat.le_of_ble_eq_true rfl) d_Search_goOn_23 (fun H locs hP _ hS => ?_)
    replace hP := X_putI (by decide) hP rfl
    refine lv_goto (tgt := 65) hx hb d_Search_goOn_26 (by decide) ?_
    refine lv_aload_n hx hb d_Search_goOn_65 rfl (lv_at hl 0 rfl) ?_
    refine va_get (D := D) (ci := 3) (v := .ref (ad 2)) (C := R_Search) (T := T_Search) (N := 5) hx hb ht i_Search hown hK hP 3 Xa_3 rfl 1 (by decide) (ht _ mF_Search_15) (fun _ h9 => h9) rfl d_Search_goOn_66 ?_
    refine va_get (D := D) (ci := 2) (v := .ref (ad 6)) (C := R_Board) (T := T_Board) (N := 7) hx hb ht i_Board hown hK hP 2 Xa_2 rfl 4 (by decide) (ht _ mF_Search_29) (fun _ h9 => h9) rfl d_Search_goOn_69 ?_
    refine lv_aload_n hx hb d_Search_goOn_72 rfl (lv_at hl 0 rfl) ?_
    refine va_get (D := D) (ci := 3) (v := .int (S.1 3 3)) (C := R_Search) (T := T_Search) (N := 5) hx hb ht i_Search hown hK hP 3 Xa_3 rfl 3 (by decide) (ht _ mF_Search_23) (fun _ h9 => h9) rfl d_Search_goOn_73 ?_
    by_cases b5 : oob (S.1 3 3) 8
    · rw [if_pos b5] at hf; exact absurd hf.symm hs
    rw [if_neg b5] at hf
    refine gz_aald hx hb hK hP 6 2 Xa_6 rfl b5 d_Search_goOn_76 ?_
    rw [X_row b5]
    refine lv_aload_n hx hb d_Search_goOn_77 rfl (lv_at hl 0 rfl) ?_
    refine va_get (D := D) (ci := 3) (v := .int ((S.1 3 4) + (1 : Int32))) (C := R_Search) (T := T_Search) (N := 5) hx hb ht i_Search hown hK hP 3 Xa_3 rfl 4 (by decide) (ht _ mF_Search_26) (fun _ h9 => h9) rfl d_Search_goOn_78 ?_
    refine lv_iconst (v := (-1)) hx hb d_Search_goOn_81 (by decide) ?_
    by_cases b6 : oob ((S.1 3 4) + (1 : Int32)) 6
    · rw [if_pos b6] at hf; exact absurd hf.symm hs
    rw [if_neg b6] at hf
    refine va_iast hx hb hK hP (X_D hI hAd) hS (10 + (S.1 3 3).toNatClampNeg) 0 (X_rowat6 b5) rfl b6 d_Search_goOn_82 (fun H locs hP _ hS => ?_)
    replace hP := X_stI (X_rowlt6 b5) (X_rowcell6 b5) hP
    refine lv_iconst (v := 1) hx hb d_Search_goOn_83 (by decide) ?_
    rw [← hQ]
    have hz : (1 : Int32) = 0 ∨ (1 : Int32) = 1 := Or.inr rfl
    exact W.zret (v := (1 : Int32)) hx hb hr (zb_n hz) (fun t ht hW => ⟨⟨(1 : Int32), wI (wI S 3 4 ((S.1 3 4) + (1 : Int32))) (10 + (S.1 3 3).toNatClampNeg) ((S.1 3 4) + (1 : Int32)).toNatClampNeg (-1 : Int32), rfl, ⟨hf.symm, hz⟩, by rw [ht]; exact hP, va_K.moved hW.alike hK⟩, hS.F ht⟩) hS.2.2 d_Search_goOn_84
set_option maxHeartbeats 4000000 in
set_option maxRecDepth 100000 in
theorem c_Search_look (l : Launch) (D : va_G) (cA : Nat → ClassId) (ad : Nat → Nat) (hI : InjA ad) (sz : Nat) (a1 : Int32) (S : SS) (hs : f_Search_look a1 S ≠ none) : Met l y_Search_look w_Search_look ({ frames := 5, cells := 0, slots := 0, locals := 119 }) (va_Pc [.ref (ad 3), .int a1] (fun U => U.heap.size = sz ∧ va_P D vwCl (X cA ad S) U.heap ∧ va_K D vwCl (tysX cA) U)) (va_Qi (fun (r : Int32) (u : SS) => f_Search_look a1 S = some (r, u)) (fun (u : SS) t => va_P D vwCl (X cA ad u) t.heap ∧ va_K D vwCl (tysX cA) t) (AS ad sz)) 0 0 (AS ad sz) := by
  refine Met.ofW (cc := b_Search_look) (maxL := 2) (ret := (some .int)) (by decide) rfl ?_
  intro p e s m args below meth c s₁ B hml hv
  obtain ⟨rfl, hsz, hP, hK⟩ := hv
  have hx := B.exec
  have hb := B.bytes
  have hr := B.returns
  have hts := atoms_spec (ws := w_Search_look) B.pre
  have ht := fun w h => hts w (List.mem_cons_of_mem _ h)
  have hown : s.vm.findClass R_Search = some m.cls := findClass_of_methodNamed B.named
  have hlocks := B.notSynchronized
  subst hsz
  have hAd : ∀ q, q < NP → AS ad s.heap.size (ad q) := fun q h => Or.inl ⟨q, h, rfl⟩
  have hA : ∀ q : Nat, s.heap.size ≤ q → AS ad s.heap.size q := fun q h => Or.inr h
  have hAS : ∀ z : Nat, s.heap.size ≤ z → ∀ q : Nat, AS ad z q → AS ad s.heap.size q := fun z h q hq => hq.elim Or.inl (fun g => Or.inr (Nat.le_trans h g))
  generalize hAe : AS ad s.heap.size = A at hAd hA hAS ⊢
  have hS : va_S A s.heap s.heap [] := va_S.rf
  have hl := lv_entry ([.ref (ad 3), .int a1]) (n := 2) (Nat.le_of_ble_eq_true rfl)
  rw [lg_entry_eq]
  generalize (lg_sl ([.ref (ad 3), .int a1]) ++ List.replicate (2 - (lg_sl ([.ref (ad 3), .int a1])).length) Slot.unset).toArray = ls at hl ⊢
  have hl : lv_has ls 2 [(0, .ref (ad 3)), (1, .int a1)] := hl
  have hf := (f_Search_look_s a1 S).symm
  generalize hQ : MQ below _ _ s _ _ _ = Q
  refine lv_aload_n hx hb d_Search_look_0 rfl (lv_at hl 0 rfl) ?_
  refine lv_iconst (v := 0) hx hb d_Search_look_1 (by decide) ?_
  refine va_put (D := D) (ci := 3) (v := .int (0 : Int32)) (ty := .int) (C := R_Search) (T := T_Search) (N := 5) hx hb ht i_Search t_Search t_Search_ok n_Search hown hK hP (X_D hI hAd) hS 3 Xa_3 rfl 2 (by decide) (ht _ mF_Search_19) (fun _ h9 => h9) rfl (by decide +kernel) rfl rfl (Nat.le_of_ble_eq_true rfl) d_Search_look_2 (fun H locs hP _ hS => ?_)
  replace hP := X_putI (by decide) hP rfl
  refine lv_aload_n hx hb d_Search_look_5 rfl (lv_at hl 0 rfl) ?_
  refine lv_iconst (v := 0) hx hb d_Search_look_6 (by decide) ?_
  refine va_put (D := D) (ci := 3) (v := .int (0 : Int32)) (ty := .int) (C := R_Search) (T := T_Search) (N := 5) hx hb ht i_Search t_Search t_Search_ok n_Search hown hK hP (X_D hI hAd) hS 3 Xa_3 rfl 3 (by decide) (ht _ mF_Search_23) (fun _ h9 => h9) rfl (by decide +kernel) rfl rfl (Nat.le_of_ble_eq_true rfl) d_Search_look_7 (fun H locs hP _ hS => ?_)
  replace hP := X_putI (by decide) hP rfl
  refine lv_aload_n hx hb d_Search_look_10 rfl (lv_at hl 0 rfl) ?_
  refine lv_iconst (v := 0) hx hb d_Search_look_11 (by decide) ?_
  refine va_put (D := D) (ci := 3) (v := .int (0 : Int32)) (ty := .int) (C := R_Search) (T := T_Search) (N := 5) hx hb ht i_Search t_Search t_Search_ok n_Search hown hK hP (X_D hI hAd) hS 3 Xa_3 rfl 4 (by decide) (ht _ mF_Search_26) (fun _ h9 => h9) rfl (by decide +kernel) rfl rfl (Nat.le_of_ble_eq_true rfl) d_Search_look_12 (fun H locs hP _ hS => ?_)
  replace hP := X_putI (by decide) hP rfl
  refine lv_aload_n hx hb d_Search_look_15 rfl (lv_at hl 0 rfl) ?_
  refine va_get (D := D) (ci := 3) (v := .ref (ad 2)) (C := R_Search) (T := T_Search) (N := 5) hx hb ht i_Search hown hK hP 3 Xa_3 rfl 1 (by decide) (ht _ mF_Search_15) (fun _ h9 => h9) rfl d_Search_look_16 ?_
  refine va_get (D := D) (ci := 2) (v := .ref (ad 6)) (C := R_Board) (T := T_Board) (N := 7) hx hb ht i_Board hown hK hP 2 Xa_2 rfl 4 (by decide) (ht _ mF_Search_29) (fun _ h9 => h9) rfl d_Search_look_19 ?_
  refine lv_aload_n hx hb d_Search_look_22 rfl (lv_at hl 0 rfl) ?_
  refine va_get (D := D) (ci := 3) (v := .int (0 : Int32)) (C := R_Search) (T := T_Search) (N := 5) hx hb ht i_Search hown hK hP 3 Xa_3 rfl 3 (by decide) (ht _ mF_Search_23) (fun _ h9 => h9) rfl d_Search_look_23 ?_
  by_cases b1 : oob (0 : Int32) 8
  · rw [if_pos b1] at hf; exact absurd hf.symm hs
  rw [if_neg b1] at hf
  refine gz_aald hx hb hK hP 6 2 Xa_6 rfl b1 d_Search_look_26 ?_
  rw [X_row b1]
  refine lv_aload_n hx hb d_Search_look_27 rfl (lv_at hl 0 rfl) ?_
  refine va_get (D := D) (ci := 3) (v := .int (0 : Int32)) (C := R_Search) (T := T_Search) (N := 5) hx hb ht i_Search hown hK hP 3 Xa_3 rfl 4 (by decide) (ht _ mF_Search_26) (fun _ h9 => h9) rfl d_Search_look_28 ?_
  refine lv_iconst (v := (-1)) hx hb d_Search_look_31 (by decide) ?_
  by_cases b2 : oob (0 : Int32) 6
  · rw [if_pos b2] at hf; exact absurd hf.symm hs
  rw [if_neg b2] at hf
  refine va_iast hx hb hK hP (X_D hI hAd) hS (10 + (0 : Int32).toNatClampNeg) 0 (X_rowat6 b1) rfl b2 d_Search_look_32 (fun H locs hP _ hS => ?_)
  replace hP := X_stI (X_rowlt6 b1) (X_rowcell6 b1) hP
  have lp33_1 : ∀ (n : Nat) (Sx : SS) (H : Heap) (locs : List Loc) (ls : Array Slot), va_P D vwCl (X cA ad Sx) H → va_S A s.heap H locs → lv_has ls 2 [(0, .ref (ad 3)), (1, .int a1)] → f_Search_look_L33 a1 n Sx ≠ none →
      (∀ o : Int32 × SS, f_Search_look_L33 a1 n Sx = some (.inl o) → f_Search_look a1 S = some o) →
      (∀ v : SS, f_Search_look_L33 a1 n Sx = some (.inr v) → ∀ (H : Heap) (locs : List Loc) (ls : Array Slot), va_P D vwCl (X cA ad v) H → va_S A s.heap H locs → lv_has ls 2 [(0, .ref (ad 3)), (1, .int a1)] → W p l e (headSpec w_Search_look ({ frames := 5, cells := 0, slots := 0, locals := 119 })).room s m ([.ref (ad 3), .int a1] : List Value).toArray below meth c H locs 0 0 Q (F0 m 97 ls [])) →
      W p l e (headSpec w_Search_look ({ frames := 5, cells := 0, slots := 0, locals := 119 })).room s m ([.ref (ad 3), .int a1] : List Value).toArray below meth c H locs 0 0 Q (F0 m 33 ls []) := by
    intro n
    induction n with
    | zero => intro Sx H locs ls hP hS hl hs; exact absurd rfl hs
    | succ n ih =>
      intro Sx H locs ls hP hS hl hs hret hexit
      have hf := (f_Search_look_L33_s a1 n Sx).symm
      refine lv_aload_n hx hb d_Search_look_33 rfl (lv_at hl 0 rfl) ?_
      refine va_get (D := D) (ci := 3) (v := .int (Sx.1 3 2)) (C := R_Search) (T := T_Search) (N := 5) hx hb ht i_Search hown hK hP 3 Xa_3 rfl 2 (by decide) (ht _ mF_Search_19) (fun _ h9 => h9) rfl d_Search_look_34 ?_
      refine lv_iload_n hx hb d_Search_look_37 rfl (lv_at hl 1 rfl) ?_
      refine lv_icmp_ge (tgt := 97) hx hb d_Search_look_38 (by decide) (fun c3 => ?_) (fun c3 => ?_)
      · rw [if_pos c3] at hf
        exact hexit _ hf.symm _ _ _ hP hS (lv_sub hl [0, 1] rfl)
      · rw [if_neg c3] at hf
        refine lv_aload_n hx hb d_Search_look_41 rfl (lv_at hl 0 rfl) ?_
        refine lv_dup hx hb d_Search_look_42 rfl ?_
        refine va_get (D := D) (ci := 3) (v := .int (Sx.1 3 2)) (C := R_Search) (T := T_Search) (N := 5) hx hb ht i_Search hown hK hP 3 Xa_3 rfl 2 (by decide) (ht _ mF_Search_19) (fun _ h9 => h9) rfl d_Search_look_43 ?_
        refine lv_iconst (v := 1) hx hb d_Search_look_46 (by decide) ?_
        refine lv_iadd hx hb d_Search_look_47 ?_
        refine va_put (D := D) (ci := 3) (v := .int ((Sx.1 3 2) + (1 : Int32))) (ty := .int) (C := R_Search) (T := T_Search) (N := 5) hx hb ht i_Search t_Search t_Search_ok n_Search hown hK hP (X_D hI hAd) hS 3 Xa_3 rfl 2 (by decide) (ht _ mF_Search_19) (fun _ h9 => h9) rfl (by decide +kernel) rfl rfl (Nat.le_of_ble_eq_true rfl) d_Search_look_48 (fun H locs hP _ hS => ?_)
        replace hP := X_putI (by decide) hP rfl
        refine lv_aload_n hx hb d_Search_look_51 rfl (lv_at hl 0 rfl) ?_
        refine va_get (D := D) (ci := 3) (v := .ref (ad 2)) (C := R_Search) (T := T_Search) (N := 5) hx hb ht i_Search hown hK hP 3 Xa_3 rfl 1 (by decide) (ht _ mF_Search_15) (fun _ h9 => h9) rfl d_Search_look_52 ?_
        refine va_get (D := D) (ci := 2) (v := .ref (ad 6)) (C := R_Board) (T := T_Board) (N := 7) hx hb ht i_Board hown hK hP 2 Xa_2 rfl 4 (by decide) (ht _ mF_Search_29) (fun _ h9 => h9) rfl d_Search_look_55 ?_
        refine lv_aload_n hx hb d_Search_look_58 rfl (lv_at hl 0 rfl) ?_
        refine va_get (D := D) (ci := 3) (v := .int (Sx.1 3 3)) (C := R_Search) (T := T_Search) (N := 5) hx hb ht i_Search hown hK hP 3 Xa_3 rfl 3 (by decide) (ht _ mF_Search_23) (fun _ h9 => h9) rfl d_Search_look_59 ?_
        by_cases b4 : oob (Sx.1 3 3) 8
        · rw [if_pos b4] at hf; exact absurd hf.symm hs
        rw [if_neg b4] at hf
        refine gz_aald hx hb hK hP 6 2 Xa_6 rfl b4 d_Search_look_62 ?_
        rw [X_row b4]
        refine lv_aload_n hx hb d_Search_look_63 rfl (lv_at hl 0 rfl) ?_
        refine va_get (D := D) (ci := 3) (v := .int (Sx.1 3 4)) (C := R_Search) (T := T_Search) (N := 5) hx hb ht i_Search hown hK hP 3 Xa_3 rfl 4 (by decide) (ht _ mF_Search_26) (fun _ h9 => h9) rfl d_Search_look_64 ?_
        refine lv_dup2_11 hx hb d_Search_look_67 rfl rfl ?_
        by_cases b5 : oob (Sx.1 3 4) 6
        · rw [if_pos b5] at hf; exact absurd hf.symm hs
        rw [if_neg b5] at hf
        refine va_iald (f := (wI Sx 3 2 ((Sx.1 3 2) + (1 : Int32))).1 (10 + (Sx.1 3 3).toNatClampNeg)) hx hb hK hP (10 + (Sx.1 3 3).toNatClampNeg) 0 (X_rowat6 b4) rfl b5 d_Search_look_68 ?_
        refine lv_iconst (v := 1) hx hb d_Search_look_69 (by decide) ?_
        refine lv_iadd hx hb d_Search_look_70 ?_
        refine va_iast hx hb hK hP (X_D hI hAd) hS (10 + (Sx.1 3 3).toNatClampNeg) 0 (X_rowat6 b4) rfl b5 d_Search_look_71 (fun H locs hP _ hS => ?_)
        replace hP := X_stI (X_rowlt6 b4) (X_rowcell6 b4) hP
        refine lv_aload_n hx hb d_Search_look_72 rfl (lv_at hl 0 rfl) ?_
        refine va_calli (va_runV (As := []) (rest := []) ⟨hx, hb, hml, hown, ht⟩ (c_Search_stands l D cA ad hI H.size (wI (wI Sx 3 2 ((Sx.1 3 2) + (1 : Int32))) (10 + (Sx.1 3 3).toNatClampNeg) (Sx.1 3 4).toNatClampNeg (((wI Sx 3 2 ((Sx.1 3 2) + (1 : Int32))).1 (10 + (Sx.1 3 3).toNatClampNeg) (Sx.1 3 4).toNatClampNeg) + (1 : Int32))) (fun hn => hs (by rw [hn] at hf; exact hf.symm))) (cwV 0 ht (good_G (gV mM_Search_35 mI_Search_stands mV_Search_stands mN_Search mk_Search_stands)) rfl rfl rfl (by decide +kernel) ⟨Nat.le_of_ble_eq_true rfl, Nat.le_of_ble_eq_true rfl⟩) ⟨fun a U g mk q => ⟨q.1, q.2.1, q.2.2.1, va_K.moved (u := U) (U := U.calling g mk a) (Vm.Alike.refl U.vm) q.2.2.2⟩, va_recv hK hP (ci := 3) (q0 := 3) rfl Xa_3, fun U hU hW => ⟨rfl, by rw [hU], by rw [hU]; exact hP, va_K.moved hW.alike hK⟩⟩ rfl rfl hl.1 rfl (lv_room (Nat.le_of_ble_eq_true rfl)) d_Search_look_73 ⟨Nat.le_of_ble_eq_true rfl, Nat.le_of_ble_eq_true rfl⟩) hS (fun q _ h => hAS _ hS.1 q h) (fun q h => hAS _ hS.1 q h) (fun r1 u1 t H locs ht9 hvm hw hB hz1 hk1 hS => ?_)
        obtain ⟨hP, hK9⟩ := hB
        rw [ht9] at hP
        obtain ⟨hw, hz1⟩ := hw
        rw [hw, Option.bind_some] at hf
        dsimp only at hf
        refine lv_if_ne (tgt := 88) hx hb d_Search_look_76 (by decide) (fun c6 => ?_) (fun c6 => ?_)
        · rw [if_neg c6] at hf
          refine lv_aload_n hx hb d_Search_look_88 rfl (lv_at hl 0 rfl) ?_
          refine va_calli (va_runV (As := []) (rest := []) ⟨hx, hb, hml, hown, ht⟩ (c_Search_goOn l D cA ad hI H.size u1 (fun hn => hs (by rw [hn] at hf; exact hf.symm))) (cwV 0 ht (good_G (gV mM_Search_42 mI_Search_goOn mV_Search_goOn mN_Search mk_Search_goOn)) rfl rfl rfl (by decide +kernel) ⟨Nat.le_of_ble_eq_true rfl, Nat.le_of_ble_eq_true rfl⟩) ⟨fun a U g mk q => ⟨q.1, q.2.1, q.2.2.1, va_K.moved (u := U) (U := U.calling g mk a) (Vm.Alike.refl U.vm) q.2.2.2⟩, va_recv hK hP (ci := 3) (q0 := 3) rfl Xa_3, fun U hU hW => ⟨rfl, by rw [hU], by rw [hU]; exact hP, va_K.moved hW.alike hK⟩⟩ rfl rfl hl.1 rfl (lv_room (Nat.le_of_ble_eq_true rfl)) d_Search_look_89 ⟨Nat.le_of_ble_eq_true rfl, Nat.le_of_ble_eq_true rfl⟩) hS (fun q _ h => hAS _ hS.1 q h) (fun q h => hAS _ hS.1 q h) (fun r2 u2 t H locs ht9 hvm hw hB hz1 hk1 hS => ?_)
          obtain ⟨hP, hK9⟩ := hB
          rw [ht9] at hP
          obtain ⟨hw, hz2⟩ := hw
          rw [hw, Option.bind_some] at hf
          dsimp only at hf
          refine lv_if_ne (tgt := 33) hx hb d_Search_look_92 (by decide) (fun c7 => ?_) (fun c7 => ?_)
          · rw [if_neg c7] at hf
            exact ih u2 _ _ _ hP hS (lv_sub hl [0, 1] rfl) (fun hn => hs (hf.symm.trans hn)) (fun o ho => hret o (hf.symm.trans ho)) (fun v ho => hexit v (hf.symm.trans ho))
          · rw [if_pos c7] at hf
            refine lv_iconst (v := 1) hx hb d_Search_look_95 (by decide) ?_
            rw [← hQ]
            exact W.iret (v := (1 : Int32)) hx hb hr (fun t ht hW => ⟨⟨(1 : Int32), u2, rfl, hret _ hf.symm, by rw [ht]; exact hP, va_K.moved hW.alike hK⟩, hS.F ht⟩) hS.2.2 d_Search_look_96
        · rw [if_pos c6] at hf
          refine lv_aload_n hx hb d_Search_look_79 rfl (lv_at hl 0 rfl) ?_
          refine va_calli (va_runV (As := []) (rest := []) ⟨hx, hb, hml, hown, ht⟩ (c_Search_goBack l D cA ad hI H.size u1 (fun hn => hs (by rw [hn] at hf; exact hf.symm))) (cwV 0 ht (good_G (gV mM_Search_39 mI_Search_goBack mV_Search_goBack mN_Search mk_Search_goBack)) rfl rfl rfl (by decide +kernel) ⟨Nat.le_of_ble_eq_true rfl, Nat.le_of_ble_eq_true rfl⟩) ⟨fun a U g mk q => ⟨q.1, q.2.1, q.2.2.1, va_K.moved (u := U) (U := U.calling g mk a) (Vm.Alike.refl U.vm) q.2.2.2⟩, va_recv hK hP (ci := 3) (q0 := 3) rfl Xa_3, fun U hU hW => ⟨rfl, by rw [hU], by rw [hU]; exact hP, va_K.moved hW.alike hK⟩⟩ rfl rfl hl.1 rfl (lv_room (Nat.le_of_ble_eq_true rfl)) d_Search_look_80 ⟨Nat.le_of_ble_eq_true rfl, Nat.le_of_ble_eq_true rfl⟩) hS (fun q _ h => hAS _ hS.1 q h) (fun q h => hAS _ hS.1 q h) (fun r3 u3 t H locs ht9 hvm hw hB hz1 hk1 hS => ?_)
          obtain ⟨hP, hK9⟩ := hB
          rw [ht9] at hP
          obtain ⟨hw, hz3⟩ := hw
          rw [hw, Option.bind_some] at hf
          dsimp only at hf
          refine lv_if_ne (tgt := 33) hx hb d_Search_look_83 (by decide) (fun c8 => ?_) (fun c8 => ?_)
          · rw [if_neg c8] at hf
            exact ih u3 _ _ _ hP hS (lv_sub hl [0, 1] rfl) (fun hn => hs (hf.symm.trans hn)) (fun o ho => hret o (hf.symm.trans ho)) (fun v ho => hexit v (hf.symm.trans ho))
          · rw [if_pos c8] at hf
            refine lv_iconst (v := 0) hx hb d_Search_look_86 (by decide) ?_
            rw [← hQ]
            exact W.iret (v := (0 : Int32)) hx hb hr (fun t ht hW => ⟨⟨(0 : Int32), u3, rfl, hret _ hf.symm, by rw [ht]; exact hP, va_K.moved hW.alike hK⟩, hS.F ht⟩) hS.2.2 d_Search_look_87
  refine lp33_1 FU (wI (wI (wI (wI S 3 2 (0 : Int32)) 3 3 (0 : Int32)) 3 4 (0 : Int32)) (10 + (0 : Int32).toNatClampNeg) (0 : Int32).toNatClampNeg (-1 : Int32)) _ _ _ hP hS (lv_sub hl [0, 1] rfl) (fun hn => ?_) (fun o ho => ?_) (fun v9 hvv9 H locs ls hP hS hl => ?_)
  · rw [hn] at hf; exact hs hf.symm
  · rw [ho, Option.bind_some, Sum.elim_inl] at hf; exact hf.symm
  · rw [hvv9, Option.bind_some, Sum.elim_inr] at hf
    refine lv_iconst (v := 2) hx hb d_Search_look_97 (by decide) ?_
    rw [← hQ]
    exact W.iret (v := (2 : Int32)) hx hb hr (fun t ht hW => ⟨⟨(2 : Int32), v9, rfl, hf.symm, by rw [ht]; exact hP, va_K.moved hW.alike hK⟩, hS.F ht⟩) hS.2.2 d_Search_look_98
end
section
set_option maxHeartbeats 4000000 in
set_option maxRecDepth 100000 in
theorem c_Rows_state (l : Launch) (D : va_G) (cA : Nat → ClassId) (ad : Nat → Nat) (hI : InjA ad) (sz : Nat) (a0 : Int32) (a1 : Int32) (S : SS) (hs : f_Rows_state a0 a1 S ≠ none) : Met l y_Rows_state w_Rows_state ({ frames := 0, cells := 0, slots := 0, locals := 0 }) (va_Pc [.int a0, .int a1] (fun U => U.heap.size = sz ∧ va_P D vwCl (X cA ad S) U.heap ∧ va_K D vwCl (tysX cA) U)) (va_Qi (fun (r : Int32) (_ : Unit) => f_Rows_state a0 a1 S = some r) (fun (_ : Unit) t => va_P D vwCl (X cA ad S) t.heap ∧ va_K D vwCl (tysX cA) t) (AS ad sz)) 0 0 (AS ad sz) := by
  refine Met.ofW (cc := b_Rows_state) (maxL := 2) (ret := (some .int)) (by decide) rfl ?_
  intro p e s m args below meth c s₁ B hml hv
  obtain ⟨rfl, hsz, hP, hK⟩ := hv
  have hx := B.exec
  have hb := B.bytes
  have hr := B.returns
  have hts := atoms_spec (ws := w_Rows_state) B.pre
  have ht := fun w h => hts w (List.mem_cons_of_mem _ h)
  have hown : s.vm.findClass R_Rows = some m.cls := findClass_of_methodNamed B.named
  have hlocks := B.notSynchronized
  subst hsz
  have hAd : ∀ q, q < NP → AS ad s.heap.size (ad q) := fun q h => Or.inl ⟨q, h, rfl⟩
  have hA : ∀ q : Nat, s.heap.size ≤ q → AS ad s.heap.size q := fun q h => Or.inr h
  have hAS : ∀ z : Nat, s.heap.size ≤ z → ∀ q : Nat, AS ad z q → AS ad s.heap.size q := fun z h q hq => hq.elim Or.inl (fun g => Or.inr (Nat.le_trans h g))
  generalize hAe : AS ad s.heap.size = A at hAd hA hAS ⊢
  have hS : va_S A s.heap s.heap [] := va_S.rf
  have hl := lv_entry ([.int a0, .int a1]) (n := 2) (Nat.le_of_ble_eq_true rfl)
  rw [lg_entry_eq]
  generalize (lg_sl ([.int a0, .int a1]) ++ List.replicate (2 - (lg_sl ([.int a0, .int a1])).length) Slot.unset).toArray = ls at hl ⊢
  have hl : lv_has ls 2 [(0, .int a0), (1, .int a1)] := hl
  have hf := (f_Rows_state_s a0 a1 S).symm
  generalize hQ : MQ below _ _ s _ _ _ = Q
  refine lv_iload_n hx hb d_Rows_state_0 rfl (lv_at hl 0 rfl) ?_
  refine lv_bipush (v := 64) hx hb d_Rows_state_1 (by decide) ?_
  refine lv_imul hx hb d_Rows_state_3 ?_
  refine lv_iload_n hx hb d_Rows_state_4 rfl (lv_at hl 1 rfl) ?_
  refine lv_iadd hx hb d_Rows_state_5 ?_
  rw [← hQ]
  exact W.iret (v := (a0 * (64 : Int32)) + a1) hx hb hr (fun t ht hW => ⟨⟨(a0 * (64 : Int32)) + a1, (), rfl, hf.symm, by rw [ht]; exact hP, va_K.moved hW.alike hK⟩, hS.F ht⟩) hS.2.2 d_Rows_state_6
set_option maxHeartbeats 4000000 in
set_option maxRecDepth 100000 in
theorem c_Rows_addWays (l : Launch) (D : va_G) (cA : Nat → ClassId) (ad : Nat → Nat) (hI : InjA ad) (sz : Nat) (a1 : Int32) (a2 : Int32) (a3 : Int32) (a4 : Int32) (S : SS) (hs : f_Rows_addWays a1 a2 a3 a4 S ≠ none) : Met l y_Rows_addWays w_Rows_addWays ({ frames := 1, cells := 0, slots := 0, locals := 21 }) (va_Pc [.ref (ad 4), .int a1, .int a2, .int a3, .int a4] (fun U => U.heap.size = sz ∧ va_P D vwCl (X cA ad S) U.heap ∧ va_K D vwCl (tysX cA) U)) (va_Qv (fun (u : SS) => f_Rows_addWays a1 a2 a3 a4 S = some u) (fun (u : SS) t => va_P D vwCl (X cA ad u) t.heap ∧ va_K D vwCl (tysX cA) t) (AS ad sz)) 0 0 (AS ad sz) := by
  refine Met.ofW (cc := b_Rows_addWays) (maxL := 6) (ret := none) (by decide) rfl ?_
  intro p e s m args below meth c s₁ B hml hv
  obtain ⟨rfl, hsz, hP, hK⟩ := hv
  have hx := B.exec
  have hb := B.bytes
  have hr := B.returns
  have hts := atoms_spec (ws := w_Rows_addWays) B.pre
  have ht := fun w h => hts w (List.mem_cons_of_mem _ h)
  have hown : s.vm.findClass R_Rows = some m.cls := findClass_of_methodNamed B.named
  have hlocks := B.notSynchronized
  subst hsz
  have hAd : ∀ q, q < NP → AS ad s.heap.size (ad q) := fun q h => Or.inl ⟨q, h, rfl⟩
  have hA : ∀ q : Nat, s.heap.size ≤ q → AS ad s.heap.size q := fun q h => Or.inr h
  have hAS : ∀ z : Nat, s.heap.size ≤ z → ∀ q : Nat, AS ad z q → AS ad s.heap.size q := fun z h q hq => hq.elim Or.inl (fun g => Or.inr (Nat.le_trans h g))
  generalize hAe : AS ad s.heap.size = A at hAd hA hAS ⊢
  have hS : va_S A s.heap s.heap [] := va_S.rf
  have hl := lv_entry ([.ref (ad 4), .int a1, .int a2, .int a3, .int a4]) (n := 6) (Nat.le_of_ble_eq_true rfl)
  rw [lg_entry_eq]
  generalize (lg_sl ([.ref (ad 4), .int a1, .int a2, .int a3, .int a4]) ++ List.replicate (6 - (lg_sl ([.ref (ad 4), .int a1, .int a2, .int a3, .int a4])).length) Slot.unset).toArray = ls at hl ⊢
  have hl : lv_has ls 6 [(0, .ref (ad 4)), (1, .int a1), (2, .int a2), (3, .int a3), (4, .int a4)] := hl
  have hf := (f_Rows_addWays_s a1 a2 a3 a4 S).symm
  generalize hQ : MQ below _ _ s _ _ _ = Q
  refine lv_iconst (v := 0) hx hb d_Rows_addWays_0 (by decide) ?_
  refine lv_istore (lv' := [(5, .int (0 : Int32)), (0, .ref (ad 4)), (1, .int a1), (2, .int a2), (3, .int a3), (4, .int a4)]) hx hb d_Rows_addWays_1 hl (by decide) rfl (fun ls hl => ?_)
  have lp3_1 : ∀ (n : Nat) (x5_1 : Int32) (Sx : SS) (H : Heap) (locs : List Loc) (ls : Array Slot), va_P D vwCl (X cA ad Sx) H → va_S A s.heap H locs → lv_has ls 6 [(0, .ref (ad 4)), (1, .int a1), (2, .int a2), (3, .int a3), (4, .int a4), (5, .int x5_1)] → f_Rows_addWays_L3 a1 a2 a3 a4 n x5_1 Sx ≠ none →
      (∀ v : SS, f_Rows_addWays_L3 a1 a2 a3 a4 n x5_1 Sx = some v → ∀ (H : Heap) (locs : List Loc) (ls : Array Slot), va_P D vwCl (X cA ad v) H → va_S A s.heap H locs → lv_has ls 6 [(0, .ref (ad 4)), (1, .int a1), (2, .int a2), (3, .int a3), (4, .int a4)] → W p l e (headSpec w_Rows_addWays ({ frames := 1, cells := 0, slots := 0, locals := 21 })).room s m ([.ref (ad 4), .int a1, .int a2, .int a3, .int a4] : List Value).toArray below meth c H locs 0 0 Q (F0 m 50 ls [])) →
      W p l e (headSpec w_Rows_addWays ({ frames := 1, cells := 0, slots := 0, locals := 21 })).room s m ([.ref (ad 4), .int a1, .int a2, .int a3, .int a4] : List Value).toArray below meth c H locs 0 0 Q (F0 m 3 ls []) := by
    intro n
    induction n with
    | zero => intro x5_1 Sx H locs ls hP hS hl hs; exact absurd rfl hs
    | succ n ih =>
      intro x5_1 Sx H locs ls hP hS hl hs hexit
      have hf := (f_Rows_addWays_L3_s a1 a2 a3 a4 n x5_1 Sx).symm
      refine lv_iload hx hb d_Rows_addWays_3 (lv_at hl 5 rfl) ?_
      refine lv_bipush (v := 64) hx hb d_Rows_addWays_5 (by decide) ?_
      refine lv_icmp_ge (tgt := 50) hx hb d_Rows_addWays_7 (by decide) (fun c1 => ?_) (fun c1 => ?_)
      · rw [if_pos c1] at hf
        exact hexit _ hf.symm _ _ _ hP hS (lv_sub hl [0, 1, 2, 3, 4] rfl)
      · rw [if_neg c1] at hf
        refine lv_aload_n hx hb d_Rows_addWays_10 rfl (lv_at hl 0 rfl) ?_
        refine va_get (D := D) (ci := 4) (v := .ref (ad 9)) (C := R_Rows) (T := T_Rows) (N := 3) hx hb ht i_Rows hown hK hP 4 Xa_4 rfl 2 (by decide) (ht _ mF_Rows_11) (fun _ h9 => h9) rfl d_Rows_addWays_11 ?_
        refine lv_iload_n hx hb d_Rows_addWays_14 rfl (lv_at hl 1 rfl) ?_
        by_cases b2 : oob a1 6
        · rw [if_pos b2] at hf; exact absurd hf.symm hs
        rw [if_neg b2] at hf
        refine gz_aald hx hb hK hP 9 2 Xa_9 rfl b2 d_Rows_addWays_15 ?_
        rw [X_row b2]
        refine lv_iload_n hx hb d_Rows_addWays_16 rfl (lv_at hl 2 rfl) ?_
        refine lv_iload hx hb d_Rows_addWays_17 (lv_at hl 5 rfl) ?_
        refine va_calli (va_runS (As := [.int a2, .int x5_1]) (rest := [.ref (ad (27 + a1.toNatClampNeg))]) ⟨hx, hb, hml, hown, ht⟩ (c_Rows_state l D cA ad hI H.size a2 x5_1 Sx (fun hn => hs (by rw [hn] at hf; exact hf.symm))) (va_cwS 2 ht (good_G (gS mM_Rows_40 mS_Rows_state mN_Rows mk_Rows_state)) rfl rfl rfl (by decide +kernel) ⟨Nat.le_of_ble_eq_true rfl, Nat.le_of_ble_eq_true rfl⟩) ⟨fun a U g mk q => ⟨q.1, q.2.1, q.2.2.1, va_K.moved (u := U) (U := U.calling g mk a) (Vm.Alike.refl U.vm) q.2.2.2⟩, fun U hU hW => ⟨rfl, by rw [hU], by rw [hU]; exact hP, va_K.moved hW.alike hK⟩⟩ rfl rfl hl.1 rfl (lv_room (Nat.le_of_ble_eq_true rfl)) d_Rows_addWays_19 ⟨Nat.le_of_ble_eq_true rfl, Nat.le_of_ble_eq_true rfl⟩) hS (fun q _ h => hAS _ hS.1 q h) (fun q h => hAS _ hS.1 q h) (fun r1 _ t H locs ht9 hvm hw hB hz1 hk1 hS => ?_)
        obtain ⟨hP, hK9⟩ := hB
        rw [ht9] at hP
        rw [hw, Option.bind_some] at hf
        refine lv_dup2_11 hx hb d_Rows_addWays_22 rfl rfl ?_
        by_cases b3 : oob r1 512
        · rw [if_pos b3] at hf; exact absurd hf.symm hs
        rw [if_neg b3] at hf
        refine va_iald (f := Sx.1 (27 + a1.toNatClampNeg)) hx hb hK hP (27 + a1.toNatClampNeg) 0 (X_rowat9 b2) rfl b3 d_Rows_addWays_23 ?_
        refine lv_aload_n hx hb d_Rows_addWays_24 rfl (lv_at hl 0 rfl) ?_
        refine va_get (D := D) (ci := 4) (v := .ref (ad 9)) (C := R_Rows) (T := T_Rows) (N := 3) hx hb ht i_Rows hown hK hP 4 Xa_4 rfl 2 (by decide) (ht _ mF_Rows_11) (fun _ h9 => h9) rfl d_Rows_addWays_25 ?_
        refine lv_iload_n hx hb d_Rows_addWays_28 rfl (lv_at hl 1 rfl) ?_
        refine lv_iconst (v := 1) hx hb d_Rows_addWays_29 (by decide) ?_
        refine lv_iadd hx hb d_Rows_addWays_30 ?_
        by_cases b4 : oob (a1 + (1 : Int32)) 6
        · rw [if_pos b4] at hf; exact absurd hf.symm hs
        rw [if_neg b4] at hf
        refine gz_aald hx hb hK hP 9 2 Xa_9 rfl b4 d_Rows_addWays_31 ?_
        rw [X_row b4]
        refine lv_iload_n hx hb d_Rows_addWays_32 rfl (lv_at hl 3 rfl) ?_
        refine lv_iload hx hb d_Rows_addWays_33 (lv_at hl 5 rfl) ?_
        refine lv_iload hx hb d_Rows_addWays_35 (lv_at hl 4 rfl) ?_
        refine lv_iand hx hb d_Rows_addWays_37 ?_
        refine va_calli (va_runS (As := [.int a3, .int (x5_1 &&& a4)]) (rest := [.ref (ad (27 + (a1 + (1 : Int32)).toNatClampNeg)), .int (Sx.1 (27 + a1.toNatClampNeg) r1.toNatClampNeg), .int r1, .ref (ad (27 + a1.toNatClampNeg))]) ⟨hx, hb, hml, hown, ht⟩ (c_Rows_state l D cA ad hI H.size a3 (x5_1 &&& a4) Sx (fun hn => hs (by rw [hn] at hf; exact hf.symm))) (va_cwS 2 ht (good_G (gS mM_Rows_40 mS_Rows_state mN_Rows mk_Rows_state)) rfl rfl rfl (by decide +kernel) ⟨Nat.le_of_ble_eq_true rfl, Nat.le_of_ble_eq_true rfl⟩) ⟨fun a U g mk q => ⟨q.1, q.2.1, q.2.2.1, va_K.moved (u := U) (U := U.calling g mk a) (Vm.Alike.refl U.vm) q.2.2.2⟩, fun U hU hW => ⟨rfl, by rw [hU], by rw [hU]; exact hP, va_K.moved hW.alike hK⟩⟩ rfl rfl hl.1 rfl (lv_room (Nat.le_of_ble_eq_true rfl)) d_Rows_addWays_38 ⟨Nat.le_of_ble_eq_true rfl, Nat.le_of_ble_eq_true rfl⟩) hS (fun q _ h => hAS _ hS.1 q h) (fun q h => hAS _ hS.1 q h) (fun r2 _ t H locs ht9 hvm hw hB hz1 hk1 hS => ?_)
        obtain ⟨hP, hK9⟩ := hB
        rw [ht9] at hP
        rw [hw, Option.bind_some] at hf
        by_cases b5 : oob r2 512
        · rw [if_pos b5] at hf; exact absurd hf.symm hs
        rw [if_neg b5] at hf
        refine va_iald (f := Sx.1 (27 + (a1 + (1 : Int32)).toNatClampNeg)) hx hb hK hP (27 + (a1 + (1 : Int32)).toNatClampNeg) 0 (X_rowat9 b4) rfl b5 d_Rows_addWays_41 ?_
        refine lv_iadd hx hb d_Rows_addWays_42 ?_
        refine va_iast hx hb hK hP (X_D hI hAd) hS (27 + a1.toNatClampNeg) 0 (X_rowat9 b2) rfl b3 d_Rows_addWays_43 (fun H locs hP _ hS => ?_)
        replace hP := X_stI (X_rowlt9 b2) (X_rowcell9 b2) hP
        refine lv_iinc (v := x5_1 + 1) (lv' := [(5, .int (x5_1 + 1)), (0, .ref (ad 4)), (1, .int a1), (2, .int a2), (3, .int a3), (4, .int a4)]) hx hb d_Rows_addWays_44 hl (k := 5) rfl rfl (by decide) rfl (fun ls hl => ?_)
        refine lv_goto (tgt := 3) hx hb d_Rows_addWays_47 (by decide) ?_
        exact ih (x5_1 + 1) (wI Sx (27 + a1.toNatClampNeg) r1.toNatClampNeg ((Sx.1 (27 + a1.toNatClampNeg) r1.toNatClampNeg) + (Sx.1 (27 + (a1 + (1 : Int32)).toNatClampNeg) r2.toNatClampNeg))) _ _ _ hP hS (lv_sub hl [1, 2, 3, 4, 5, 0] rfl) (fun hn => hs (hf.symm.trans hn)) (fun v ho => hexit v (hf.symm.trans ho))
  refine lp3_1 FU (0 : Int32) S _ _ _ hP hS (lv_sub hl [1, 2, 3, 4, 5, 0] rfl) (fun hn => ?_) (fun v6 hvv6 H locs ls hP hS hl => ?_)
  · rw [hn] at hf; exact hs hf.symm
  · rw [hvv6, Option.bind_some] at hf
    rw [← hQ]
    exact W.vret hx hb hr (fun t ht hW => ⟨⟨v6, rfl, hf.symm, by rw [ht]; exact hP, va_K.moved hW.alike hK⟩, hS.F ht⟩) hS.2.2 d_Rows_addWays_50
set_option maxHeartbeats 4000000 in
set_option maxRecDepth 100000 in
theorem c_Rows_countWaysBehind (l : Launch) (D : va_G) (cA : Nat → ClassId) (ad : Nat → Nat) (hI : InjA ad) (sz : Nat) (a1 : Int32) (S : SS) (hs : f_Rows_countWaysBehind a1 S ≠ none) : Met l y_Rows_countWaysBehind w_Rows_countWaysBehind ({ frames := 3, cells := 0, slots := 0, locals := 69 }) (va_Pc [.ref (ad 4), .int a1] (fun U => U.heap.size = sz ∧ va_P D vwCl (X cA ad S) U.heap ∧ va_K D vwCl (tysX cA) U)) (va_Qv (fun (u : SS) => f_Rows_countWaysBehind a1 S = some u) (fun (u : SS) t => va_P D vwCl (X cA ad u) t.heap ∧ va_K D vwCl (tysX cA) t) (AS ad sz)) 0 0 (AS ad sz) := by
  refine Met.ofW (cc := b_Rows_countWaysBehind) (maxL := 5) (ret := none) (by decide) rfl ?_
  intro p e s m args below meth c s₁ B hml hv
  obtain ⟨rfl, hsz, hP, hK⟩ := hv
  have hx := B.exec
  have hb := B.bytes
  have hr := B.returns
  have hts := atoms_spec (ws := w_Rows_countWaysBehind) B.pre
  have ht := fun w h => hts w (List.mem_cons_of_mem _ h)
  have hown : s.vm.findClass R_Rows = some m.cls := findClass_of_methodNamed B.named
  have hlocks := B.notSynchronized
  subst hsz
  have hAd : ∀ q, q < NP → AS ad s.heap.size (ad q) := fun q h => Or.inl ⟨q, h, rfl⟩
  have hA : ∀ q : Nat, s.heap.size ≤ q → AS ad s.heap.size q := fun q h => Or.inr h
  have hAS : ∀ z : Nat, s.heap.size ≤ z → ∀ q : Nat, AS ad z q → AS ad s.heap.size q := fun z h q hq => hq.elim Or.inl (fun g => Or.inr (Nat.le_trans h g))
  generalize hAe : AS ad s.heap.size = A at hAd hA hAS ⊢
  have hS : va_S A s.heap s.heap [] := va_S.rf
  have hl := lv_entry ([.ref (ad 4), .int a1]) (n := 5) (Nat.le_of_ble_eq_true rfl)
  rw [lg_entry_eq]
  generalize (lg_sl ([.ref (ad 4), .int a1]) ++ List.replicate (5 - (lg_sl ([.ref (ad 4), .int a1])).length) Slot.unset).toArray = ls at hl ⊢
  have hl : lv_has ls 5 [(0, .ref (ad 4)), (1, .int a1)] := hl
  have hf := (f_Rows_countWaysBehind_s a1 S).symm
  generalize hQ : MQ below _ _ s _ _ _ = Q
  refine lv_iconst (v := 0) hx hb d_Rows_countWaysBehind_0 (by decide) ?_
  refine lv_istore_n (lv' := [(2, .int (0 : Int32)), (0, .ref (ad 4)), (1, .int a1)]) hx hb d_Rows_countWaysBehind_1 rfl hl (by decide) rfl (fun ls hl => ?_)
  have lp2_1 : ∀ (n : Nat) (x2_1 : Int32) (Sx : SS) (H : Heap) (locs : List Loc) (ls : Array Slot), va_P D vwCl (X cA ad Sx) H → va_S A s.heap H locs → lv_has ls 5 [(0, .ref (ad 4)), (1, .int a1), (2, .int x2_1)] → f_Rows_countWaysBehind_L2 a1 n x2_1 Sx ≠ none →
      (∀ v : SS, f_Rows_countWaysBehind_L2 a1 n x2_1 Sx = some v → ∀ (H : Heap) (locs : List Loc) (ls : Array Slot), va_P D vwCl (X cA ad v) H → va_S A s.heap H locs → lv_has ls 5 [(0, .ref (ad 4)), (1, .int a1)] → W p l e (headSpec w_Rows_countWaysBehind ({ frames := 3, cells := 0, slots := 0, locals := 69 })).room s m ([.ref (ad 4), .int a1] : List Value).toArray below meth c H locs 0 0 Q (F0 m 24 ls [])) →
      W p l e (headSpec w_Rows_countWaysBehind ({ frames := 3, cells := 0, slots := 0, locals := 69 })).room s m ([.ref (ad 4), .int a1] : List Value).toArray below meth c H locs 0 0 Q (F0 m 2 ls []) := by
    intro n
    induction n with
    | zero => intro x2_1 Sx H locs ls hP hS hl hs; exact absurd rfl hs
    | succ n ih =>
      intro x2_1 Sx H locs ls hP hS hl hs hexit
      have hf := (f_Rows_countWaysBehind_L2_s a1 n x2_1 Sx).symm
      refine lv_iload_n hx hb d_Rows_countWaysBehind_2 rfl (lv_at hl 2 rfl) ?_
      refine lv_sipush (v := 512) hx hb d_Rows_countWaysBehind_3 (by decide) ?_
      refine lv_icmp_ge (tgt := 24) hx hb d_Rows_countWaysBehind_6 (by decide) (fun c1 => ?_) (fun c1 => ?_)
      · rw [if_pos c1] at hf
        exact hexit _ hf.symm _ _ _ hP hS (lv_sub hl [0, 1] rfl)
      · rw [if_neg c1] at hf
        refine lv_aload_n hx hb d_Rows_countWaysBehind_9 rfl (lv_at hl 0 rfl) ?_
        refine va_get (D := D) (ci := 4) (v := .ref (ad 9)) (C := R_Rows) (T := T_Rows) (N := 3) hx hb ht i_Rows hown hK hP 4 Xa_4 rfl 2 (by decide) (ht _ mF_Rows_11) (fun _ h9 => h9) rfl d_Rows_countWaysBehind_10 ?_
        refine lv_iload_n hx hb d_Rows_countWaysBehind_13 rfl (lv_at hl 1 rfl) ?_
        by_cases b2 : oob a1 6
        · rw [if_pos b2] at hf; exact absurd hf.symm hs
        rw [if_neg b2] at hf
        refine gz_aald hx hb hK hP 9 2 Xa_9 rfl b2 d_Rows_countWaysBehind_14 ?_
        rw [X_row b2]
        refine lv_iload_n hx hb d_Rows_countWaysBehind_15 rfl (lv_at hl 2 rfl) ?_
        refine lv_iconst (v := 0) hx hb d_Rows_countWaysBehind_16 (by decide) ?_
        by_cases b3 : oob x2_1 512
        · rw [if_pos b3] at hf; exact absurd hf.symm hs
        rw [if_neg b3] at hf
        refine va_iast hx hb hK hP (X_D hI hAd) hS (27 + a1.toNatClampNeg) 0 (X_rowat9 b2) rfl b3 d_Rows_countWaysBehind_17 (fun H locs hP _ hS => ?_)
        replace hP := X_stI (X_rowlt9 b2) (X_rowcell9 b2) hP
        refine lv_iinc (v := x2_1 + 1) (lv' := [(2, .int (x2_1 + 1)), (0, .ref (ad 4)), (1, .int a1)]) hx hb d_Rows_countWaysBehind_18 hl (k := 2) rfl rfl (by decide) rfl (fun ls hl => ?_)
        refine lv_goto (tgt := 2) hx hb d_Rows_countWaysBehind_21 (by decide) ?_
        exact ih (x2_1 + 1) (wI Sx (27 + a1.toNatClampNeg) x2_1.toNatClampNeg (0 : Int32)) _ _ _ hP hS (lv_sub hl [1, 2, 0] rfl) (fun hn => hs (hf.symm.trans hn)) (fun v ho => hexit v (hf.symm.trans ho))
  refine lp2_1 FU (0 : Int32) S _ _ _ hP hS (lv_sub hl [1, 2, 0] rfl) (fun hn => ?_) (fun v4 hvv4 H locs ls hP hS hl => ?_)
  · rw [hn] at hf; exact hs hf.symm
  · rw [hvv4, Option.bind_some] at hf
    refine lv_iconst (v := 0) hx hb d_Rows_countWaysBehind_24 (by decide) ?_
    refine lv_istore_n (lv' := [(2, .int (0 : Int32)), (0, .ref (ad 4)), (1, .int a1)]) hx hb d_Rows_countWaysBehind_25 rfl hl (by decide) rfl (fun ls hl => ?_)
    have lp26_2 : ∀ (n : Nat) (x2_2 : Int32) (Sx : SS) (H : Heap) (locs : List Loc) (ls : Array Slot), va_P D vwCl (X cA ad Sx) H → va_S A s.heap H locs → lv_has ls 5 [(0, .ref (ad 4)), (1, .int a1), (2, .int x2_2)] → f_Rows_countWaysBehind_L26 a1 n x2_2 Sx ≠ none →
        (∀ v : SS, f_Rows_countWaysBehind_L26 a1 n x2_2 Sx = some v → ∀ (H : Heap) (locs : List Loc) (ls : Array Slot), va_P D vwCl (X cA ad v) H → va_S A s.heap H locs → lv_has ls 5 [(0, .ref (ad 4)), (1, .int a1)] → W p l e (headSpec w_Rows_countWaysBehind ({ frames := 3, cells := 0, slots := 0, locals := 69 })).room s m ([.ref (ad 4), .int a1] : List Value).toArray below meth c H locs 0 0 Q (F0 m 98 ls [])) →
        W p l e (headSpec w_Rows_countWaysBehind ({ frames := 3, cells := 0, slots := 0, locals := 69 })).room s m ([.ref (ad 4), .int a1] : List Value).toArray below meth c H locs 0 0 Q (F0 m 26 ls []) := by
      intro n
      induction n with
      | zero => intro x2_2 Sx H locs ls hP hS hl hs; exact absurd rfl hs
      | succ n ih =>
        intro x2_2 Sx H locs ls hP hS hl hs hexit
        have hf := (f_Rows_countWaysBehind_L26_s a1 n x2_2 Sx).symm
        refine lv_iload_n hx hb d_Rows_countWaysBehind_26 rfl (lv_at hl 2 rfl) ?_
        refine lv_aload_n hx hb d_Rows_countWaysBehind_27 rfl (lv_at hl 0 rfl) ?_
        refine va_get (D := D) (ci := 4) (v := .ref (ad 1)) (C := R_Rows) (T := T_Rows) (N := 3) hx hb ht i_Rows hown hK hP 4 Xa_4 rfl 0 (by decide) (ht _ mF_Rows_16) (fun _ h9 => h9) rfl d_Rows_countWaysBehind_28 ?_
        refine va_get (D := D) (ci := 1) (v := .int (Sx.1 1 1)) (C := R_Law) (T := T_Law) (N := 5) hx hb ht i_Law hown hK hP 1 Xa_1 rfl 1 (by decide) (ht _ mF_Rows_28) (fun _ h9 => h9) rfl d_Rows_countWaysBehind_31 ?_
        refine lv_icmp_ge (tgt := 98) hx hb d_Rows_countWaysBehind_34 (by decide) (fun c5 => ?_) (fun c5 => ?_)
        · rw [if_pos c5] at hf
          exact hexit _ hf.symm _ _ _ hP hS (lv_sub hl [0, 1] rfl)
        · rw [if_neg c5] at hf
          refine lv_aload_n hx hb d_Rows_countWaysBehind_37 rfl (lv_at hl 0 rfl) ?_
          refine va_get (D := D) (ci := 4) (v := .ref (ad 2)) (C := R_Rows) (T := T_Rows) (N := 3) hx hb ht i_Rows hown hK hP 4 Xa_4 rfl 1 (by decide) (ht _ mF_Rows_20) (fun _ h9 => h9) rfl d_Rows_countWaysBehind_38 ?_
          refine lv_iload_n hx hb d_Rows_countWaysBehind_41 rfl (lv_at hl 1 rfl) ?_
          refine lv_iconst (v := 1) hx hb d_Rows_countWaysBehind_42 (by decide) ?_
          refine lv_iadd hx hb d_Rows_countWaysBehind_43 ?_
          refine lv_iload_n hx hb d_Rows_countWaysBehind_44 rfl (lv_at hl 2 rfl) ?_
          refine va_calli (va_runV (As := [.int (a1 + (1 : Int32)), .int x2_2]) (rest := []) ⟨hx, hb, hml, hown, ht⟩ (c_Board_doorsHolding l D cA ad hI H.size (a1 + (1 : Int32)) x2_2 Sx (fun hn => hs (by rw [hn] at hf; exact hf.symm))) (cwV 2 ht (good_G (gV mM_Rows_34 mI_Board_doorsHolding mV_Board_doorsHolding mN_Board mk_Board_doorsHolding)) rfl rfl rfl (by decide +kernel) ⟨Nat.le_of_ble_eq_true rfl, Nat.le_of_ble_eq_true rfl⟩) ⟨fun a U g mk q => ⟨q.1, q.2.1, q.2.2.1, va_K.moved (u := U) (U := U.calling g mk a) (Vm.Alike.refl U.vm) q.2.2.2⟩, va_recv hK hP (ci := 2) (q0 := 2) rfl Xa_2, fun U hU hW => ⟨rfl, by rw [hU], by rw [hU]; exact hP, va_K.moved hW.alike hK⟩⟩ rfl rfl hl.1 rfl (lv_room (Nat.le_of_ble_eq_true rfl)) d_Rows_countWaysBehind_45 ⟨Nat.le_of_ble_eq_true rfl, Nat.le_of_ble_eq_true rfl⟩) hS (fun q _ h => hAS _ hS.1 q h) (fun q h => hAS _ hS.1 q h) (fun r1 _ t H locs ht9 hvm hw hB hz1 hk1 hS => ?_)
          obtain ⟨hP, hK9⟩ := hB
          rw [ht9] at hP
          rw [hw, Option.bind_some] at hf
          refine lv_istore_n (lv' := [(3, .int r1), (0, .ref (ad 4)), (1, .int a1), (2, .int x2_2)]) hx hb d_Rows_countWaysBehind_48 rfl hl (by decide) rfl (fun ls hl => ?_)
          refine lv_iconst (v := 0) hx hb d_Rows_countWaysBehind_49 (by decide) ?_
          refine lv_istore (lv' := [(4, .int (0 : Int32)), (3, .int r1), (0, .ref (ad 4)), (1, .int a1), (2, .int x2_2)]) hx hb d_Rows_countWaysBehind_50 hl (by decide) rfl (fun ls hl => ?_)
          have lp52_3 : ∀ (n : Nat) (x4_3 : Int32) (Sx : SS) (H : Heap) (locs : List Loc) (ls : Array Slot), va_P D vwCl (X cA ad Sx) H → va_S A s.heap H locs → lv_has ls 5 [(0, .ref (ad 4)), (1, .int a1), (2, .int x2_2), (3, .int r1), (4, .int x4_3)] → f_Rows_countWaysBehind_L52 a1 x2_2 r1 n x4_3 Sx ≠ none →
              (∀ v : SS, f_Rows_countWaysBehind_L52 a1 x2_2 r1 n x4_3 Sx = some v → ∀ (H : Heap) (locs : List Loc) (ls : Array Slot), va_P D vwCl (X cA ad v) H → va_S A s.heap H locs → lv_has ls 5 [(0, .ref (ad 4)), (1, .int a1), (2, .int x2_2), (3, .int r1)] → W p l e (headSpec w_Rows_countWaysBehind ({ frames := 3, cells := 0, slots := 0, locals := 69 })).room s m ([.ref (ad 4), .int a1] : List Value).toArray below meth c H locs 0 0 Q (F0 m 92 ls [])) →
              W p l e (headSpec w_Rows_countWaysBehind ({ frames := 3, cells := 0, slots := 0, locals := 69 })).room s m ([.ref (ad 4), .int a1] : List Value).toArray below meth c H locs 0 0 Q (F0 m 52 ls []) := by
            intro n
            induction n with
            | zero => intro x4_3 Sx H locs ls hP hS hl hs; exact absurd rfl hs
            | succ n ih =>
              intro x4_3 Sx H locs ls hP hS hl hs hexit
              have hf := (f_Rows_countWaysBehind_L52_s a1 x2_2 r1 n x4_3 Sx).symm
              refine lv_iload hx hb d_Rows_countWaysBehind_52 (lv_at hl 4 rfl) ?_
              refine lv_aload_n hx hb d_Rows_countWaysBehind_54 rfl (lv_at hl 0 rfl) ?_
              refine va_get (D := D) (ci := 4) (v := .ref (ad 1)) (C := R_Rows) (T := T_Rows) (N := 3) hx hb ht i_Rows hown hK hP 4 Xa_4 rfl 0 (by decide) (ht _ mF_Rows_16) (fun _ h9 => h9) rfl d_Rows_countWaysBehind_55 ?_
              refine va_get (D := D) (ci := 1) (v := .int (Sx.1 1 1)) (C := R_Law) (T := T_Law) (N := 5) hx hb ht i_Law hown hK hP 1 Xa_1 rfl 1 (by decide) (ht _ mF_Rows_28) (fun _ h9 => h9) rfl d_Rows_countWaysBehind_58 ?_
              refine lv_icmp_ge (tgt := 92) hx hb d_Rows_countWaysBehind_61 (by decide) (fun c6 => ?_) (fun c6 => ?_)
              · rw [if_pos c6] at hf
                exact hexit _ hf.symm _ _ _ hP hS (lv_sub hl [0, 1, 2, 3] rfl)
              · rw [if_neg c6] at hf
                refine lv_aload_n hx hb d_Rows_countWaysBehind_64 rfl (lv_at hl 0 rfl) ?_
                refine va_get (D := D) (ci := 4) (v := .ref (ad 1)) (C := R_Rows) (T := T_Rows) (N := 3) hx hb ht i_Rows hown hK hP 4 Xa_4 rfl 0 (by decide) (ht _ mF_Rows_16) (fun _ h9 => h9) rfl d_Rows_countWaysBehind_65 ?_
                refine lv_iload hx hb d_Rows_countWaysBehind_68 (lv_at hl 4 rfl) ?_
                refine lv_iload_n hx hb d_Rows_countWaysBehind_70 rfl (lv_at hl 2 rfl) ?_
                refine va_calli (va_runV (As := [.int x4_3, .int x2_2]) (rest := []) ⟨hx, hb, hml, hown, ht⟩ (c_Law_mayFollow l D cA ad hI H.size x4_3 x2_2 Sx (fun hn => hs (by rw [hn] at hf; exact hf.symm))) (cwV 2 ht (good_G (gV mM_Rows_68 mI_Law_mayFollow mV_Law_mayFollow mN_Law mk_Law_mayFollow)) rfl rfl rfl (by decide +kernel) ⟨Nat.le_of_ble_eq_true rfl, Nat.le_of_ble_eq_true rfl⟩) ⟨fun a U g mk q => ⟨q.1, q.2.1, q.2.2.1, va_K.moved (u := U) (U := U.calling g mk a) (Vm.Alike.refl U.vm) q.2.2.2⟩, va_recv hK hP (ci := 1) (q0 := 1) rfl Xa_1, fun U hU hW => ⟨rfl, by rw [hU], by rw [hU]; exact hP, va_K.moved hW.alike hK⟩⟩ rfl rfl hl.1 rfl (lv_room (Nat.le_of_ble_eq_true rfl)) d_Rows_countWaysBehind_71 ⟨Nat.le_of_ble_eq_true rfl, Nat.le_of_ble_eq_true rfl⟩) hS (fun q _ h => hAS _ hS.1 q h) (fun q h => hAS _ hS.1 q h) (fun r2 _ t H locs ht9 hvm hw hB hz1 hk1 hS => ?_)
                obtain ⟨hP, hK9⟩ := hB
                rw [ht9] at hP
                obtain ⟨hw, hz2⟩ := hw
                rw [hw, Option.bind_some] at hf
                refine lv_if_eq (tgt := 86) hx hb d_Rows_countWaysBehind_74 (by decide) (fun c7 => ?_) (fun c7 => ?_)
                · rw [if_pos c7] at hf
                  refine lv_iinc (v := x4_3 + 1) (lv' := [(4, .int (x4_3 + 1)), (0, .ref (ad 4)), (1, .int a1), (2, .int x2_2), (3, .int r1)]) hx hb d_Rows_countWaysBehind_86 hl (k := 4) rfl rfl (by decide) rfl (fun ls hl => ?_)
                  refine lv_goto (tgt := 52) hx hb d_Rows_countWaysBehind_89 (by decide) ?_
                  exact ih (x4_3 + 1) Sx _ _ _ hP hS (lv_sub hl [1, 2, 3, 4, 0] rfl) (fun hn => hs (hf.symm.trans hn)) (fun v ho => hexit v (hf.symm.trans ho))
                · rw [if_neg c7] at hf
                  refine lv_aload_n hx hb d_Rows_countWaysBehind_77 rfl (lv_at hl 0 rfl) ?_
                  refine lv_iload_n hx hb d_Rows_countWaysBehind_78 rfl (lv_at hl 1 rfl) ?_
                  refine lv_iload hx hb d_Rows_countWaysBehind_79 (lv_at hl 4 rfl) ?_
                  refine lv_iload_n hx hb d_Rows_countWaysBehind_81 rfl (lv_at hl 2 rfl) ?_
                  refine lv_iload_n hx hb d_Rows_countWaysBehind_82 rfl (lv_at hl 3 rfl) ?_
                  refine va_callv (va_runV (As := [.int a1, .int x4_3, .int x2_2, .int r1]) (rest := []) ⟨hx, hb, hml, hown, ht⟩ (c_Rows_addWays l D cA ad hI H.size a1 x4_3 x2_2 r1 Sx (fun hn => hs (by rw [hn] at hf; exact hf.symm))) (cwV 4 ht (good_G (gV mM_Rows_75 mI_Rows_addWays mV_Rows_addWays mN_Rows mk_Rows_addWays)) rfl rfl rfl (by decide +kernel) ⟨Nat.le_of_ble_eq_true rfl, Nat.le_of_ble_eq_true rfl⟩) ⟨fun a U g mk q => ⟨q.1, q.2.1, q.2.2.1, va_K.moved (u := U) (U := U.calling g mk a) (Vm.Alike.refl U.vm) q.2.2.2⟩, va_recv hK hP (ci := 4) (q0 := 4) rfl Xa_4, fun U hU hW => ⟨rfl, by rw [hU], by rw [hU]; exact hP, va_K.moved hW.alike hK⟩⟩ rfl rfl hl.1 rfl (lv_room (Nat.le_of_ble_eq_true rfl)) d_Rows_countWaysBehind_83 ⟨Nat.le_of_ble_eq_true rfl, Nat.le_of_ble_eq_true rfl⟩) hS (fun q _ h => hAS _ hS.1 q h) (fun q h => hAS _ hS.1 q h) (fun u3 t H locs ht9 hvm hw hB hz1 hk1 hS => ?_)
                  obtain ⟨hP, hK9⟩ := hB
                  rw [ht9] at hP
                  rw [hw, Option.bind_some] at hf
                  refine lv_iinc (v := x4_3 + 1) (lv' := [(4, .int (x4_3 + 1)), (0, .ref (ad 4)), (1, .int a1), (2, .int x2_2), (3, .int r1)]) hx hb d_Rows_countWaysBehind_86 hl (k := 4) rfl rfl (by decide) rfl (fun ls hl => ?_)
                  refine lv_goto (tgt := 52) hx hb d_Rows_countWaysBehind_89 (by decide) ?_
                  exact ih (x4_3 + 1) u3 _ _ _ hP hS (lv_sub hl [1, 2, 3, 4, 0] rfl) (fun hn => hs (hf.symm.trans hn)) (fun v ho => hexit v (hf.symm.trans ho))
          refine lp52_3 FU (0 : Int32) Sx _ _ _ hP hS (lv_sub hl [2, 3, 4, 1, 0] rfl) (fun hn => ?_) (fun v8 hvv8 H locs ls hP hS hl => ?_)
          · rw [hn] at hf; exact hs hf.symm
          · rw [hvv8, Option.bind_some] at hf
            refine lv_iinc (v := x2_2 + 1) (lv' := [(2, .int (x2_2 + 1)), (0, .ref (ad 4)), (1, .int a1), (3, .int r1)]) hx hb d_Rows_countWaysBehind_92 hl (k := 2) rfl rfl (by decide) rfl (fun ls hl => ?_)
            refine lv_goto (tgt := 26) hx hb d_Rows_countWaysBehind_95 (by decide) ?_
            exact ih (x2_2 + 1) v8 _ _ _ hP hS (lv_sub hl [1, 2, 0] rfl) (fun hn => hs (hf.symm.trans hn)) (fun v ho => hexit v (hf.symm.trans ho))
    refine lp26_2 FU (0 : Int32) v4 _ _ _ hP hS (lv_sub hl [1, 2, 0] rfl) (fun hn => ?_) (fun v9 hvv9 H locs ls hP hS hl => ?_)
    · rw [hn] at hf; exact hs hf.symm
    · rw [hvv9, Option.bind_some] at hf
      rw [← hQ]
      exact W.vret hx hb hr (fun t ht hW => ⟨⟨v9, rfl, hf.symm, by rw [ht]; exact hP, va_K.moved hW.alike hK⟩, hS.F ht⟩) hS.2.2 d_Rows_countWaysBehind_98
set_option maxHeartbeats 4000000 in
set_option maxRecDepth 100000 in
theorem c_Rows_countWays (l : Launch) (D : va_G) (cA : Nat → ClassId) (ad : Nat → Nat) (hI : InjA ad) (sz : Nat) (a1 : Int32) (S : SS) (hs : f_Rows_countWays a1 S ≠ none) : Met l y_Rows_countWays w_Rows_countWays ({ frames := 4, cells := 0, slots := 0, locals := 93 }) (va_Pc [.ref (ad 4), .int a1] (fun U => U.heap.size = sz ∧ va_P D vwCl (X cA ad S) U.heap ∧ va_K D vwCl (tysX cA) U)) (va_Qv (fun (u : SS) => f_Rows_countWays a1 S = some u) (fun (u : SS) t => va_P D vwCl (X cA ad u) t.heap ∧ va_K D vwCl (tysX cA) t) (AS ad sz)) 0 0 (AS ad sz) := by
  refine Met.ofW (cc := b_Rows_countWays) (maxL := 5) (ret := none) (by decide) rfl ?_
  intro p e s m args below meth c s₁ B hml hv
  obtain ⟨rfl, hsz, hP, hK⟩ := hv
  have hx := B.exec
  have hb := B.bytes
  have hr := B.returns
  have hts := atoms_spec (ws := w_Rows_countWays) B.pre
  have ht := fun w h => hts w (List.mem_cons_of_mem _ h)
  have hown : s.vm.findClass R_Rows = some m.cls := findClass_of_methodNamed B.named
  have hlocks := B.notSynchronized
  subst hsz
  have hAd : ∀ q, q < NP → AS ad s.heap.size (ad q) := fun q h => Or.inl ⟨q, h, rfl⟩
  have hA : ∀ q : Nat, s.heap.size ≤ q → AS ad s.heap.size q := fun q h => Or.inr h
  have hAS : ∀ z : Nat, s.heap.size ≤ z → ∀ q : Nat, AS ad z q → AS ad s.heap.size q := fun z h q hq => hq.elim Or.inl (fun g => Or.inr (Nat.le_trans h g))
  generalize hAe : AS ad s.heap.size = A at hAd hA hAS ⊢
  have hS : va_S A s.heap s.heap [] := va_S.rf
  have hl := lv_entry ([.ref (ad 4), .int a1]) (n := 5) (Nat.le_of_ble_eq_true rfl)
  rw [lg_entry_eq]
  generalize (lg_sl ([.ref (ad 4), .int a1]) ++ List.replicate (5 - (lg_sl ([.ref (ad 4), .int a1])).length) Slot.unset).toArray = ls at hl ⊢
  have hl : lv_has ls 5 [(0, .ref (ad 4)), (1, .int a1)] := hl
  have hf := (f_Rows_countWays_s a1 S).symm
  generalize hQ : MQ below _ _ s _ _ _ = Q
  refine lv_aload_n hx hb d_Rows_countWays_0 rfl (lv_at hl 0 rfl) ?_
  refine va_get (D := D) (ci := 4) (v := .ref (ad 1)) (C := R_Rows) (T := T_Rows) (N := 3) hx hb ht i_Rows hown hK hP 4 Xa_4 rfl 0 (by decide) (ht _ mF_Rows_16) (fun _ h9 => h9) rfl d_Rows_countWays_1 ?_
  refine va_get (D := D) (ci := 1) (v := .int (S.1 1 0)) (C := R_Law) (T := T_Law) (N := 5) hx hb ht i_Law hown hK hP 1 Xa_1 rfl 0 (by decide) (ht _ mF_Rows_57) (fun _ h9 => h9) rfl d_Rows_countWays_4 ?_
  refine lv_iconst (v := 1) hx hb d_Rows_countWays_7 (by decide) ?_
  refine lv_isub hx hb d_Rows_countWays_8 ?_
  refine lv_istore_n (lv' := [(2, .int ((S.1 1 0) - (1 : Int32))), (0, .ref (ad 4)), (1, .int a1)]) hx hb d_Rows_countWays_9 rfl hl (by decide) rfl (fun ls hl => ?_)
  refine lv_iconst (v := 0) hx hb d_Rows_countWays_10 (by decide) ?_
  refine lv_istore_n (lv' := [(3, .int (0 : Int32)), (2, .int ((S.1 1 0) - (1 : Int32))), (0, .ref (ad 4)), (1, .int a1)]) hx hb d_Rows_countWays_11 rfl hl (by decide) rfl (fun ls hl => ?_)
  have lp12_1 : ∀ (n : Nat) (x3_1 : Int32) (Sx : SS) (H : Heap) (locs : List Loc) (ls : Array Slot), va_P D vwCl (X cA ad Sx) H → va_S A s.heap H locs → lv_has ls 5 [(0, .ref (ad 4)), (1, .int a1), (2, .int ((S.1 1 0) - (1 : Int32))), (3, .int x3_1)] → f_Rows_countWays_L12 a1 ((S.1 1 0) - (1 : Int32)) n x3_1 Sx ≠ none →
      (∀ v : SS, f_Rows_countWays_L12 a1 ((S.1 1 0) - (1 : Int32)) n x3_1 Sx = some v → ∀ (H : Heap) (locs : List Loc) (ls : Array Slot), va_P D vwCl (X cA ad v) H → va_S A s.heap H locs → lv_has ls 5 [(0, .ref (ad 4)), (1, .int a1), (2, .int ((S.1 1 0) - (1 : Int32)))] → W p l e (headSpec w_Rows_countWays ({ frames := 4, cells := 0, slots := 0, locals := 93 })).room s m ([.ref (ad 4), .int a1] : List Value).toArray below meth c H locs 0 0 Q (F0 m 69 ls [])) →
      W p l e (headSpec w_Rows_countWays ({ frames := 4, cells := 0, slots := 0, locals := 93 })).room s m ([.ref (ad 4), .int a1] : List Value).toArray below meth c H locs 0 0 Q (F0 m 12 ls []) := by
    intro n
    induction n with
    | zero => intro x3_1 Sx H locs ls hP hS hl hs; exact absurd rfl hs
    | succ n ih =>
      intro x3_1 Sx H locs ls hP hS hl hs hexit
      have hf := (f_Rows_countWays_L12_s a1 ((S.1 1 0) - (1 : Int32)) n x3_1 Sx).symm
      refine lv_iload_n hx hb d_Rows_countWays_12 rfl (lv_at hl 3 rfl) ?_
      refine lv_aload_n hx hb d_Rows_countWays_13 rfl (lv_at hl 0 rfl) ?_
      refine va_get (D := D) (ci := 4) (v := .ref (ad 1)) (C := R_Rows) (T := T_Rows) (N := 3) hx hb ht i_Rows hown hK hP 4 Xa_4 rfl 0 (by decide) (ht _ mF_Rows_16) (fun _ h9 => h9) rfl d_Rows_countWays_14 ?_
      refine va_get (D := D) (ci := 1) (v := .int (Sx.1 1 1)) (C := R_Law) (T := T_Law) (N := 5) hx hb ht i_Law hown hK hP 1 Xa_1 rfl 1 (by decide) (ht _ mF_Rows_28) (fun _ h9 => h9) rfl d_Rows_countWays_17 ?_
      refine lv_icmp_ge (tgt := 69) hx hb d_Rows_countWays_20 (by decide) (fun c1 => ?_) (fun c1 => ?_)
      · rw [if_pos c1] at hf
        exact hexit _ hf.symm _ _ _ hP hS (lv_sub hl [0, 1, 2] rfl)
      · rw [if_neg c1] at hf
        refine lv_iconst (v := 0) hx hb d_Rows_countWays_23 (by decide) ?_
        refine lv_istore (lv' := [(4, .int (0 : Int32)), (0, .ref (ad 4)), (1, .int a1), (2, .int ((S.1 1 0) - (1 : Int32))), (3, .int x3_1)]) hx hb d_Rows_countWays_24 hl (by decide) rfl (fun ls hl => ?_)
        have lp26_2 : ∀ (n : Nat) (x4_2 : Int32) (Sx : SS) (H : Heap) (locs : List Loc) (ls : Array Slot), va_P D vwCl (X cA ad Sx) H → va_S A s.heap H locs → lv_has ls 5 [(0, .ref (ad 4)), (1, .int a1), (2, .int ((S.1 1 0) - (1 : Int32))), (3, .int x3_1), (4, .int x4_2)] → f_Rows_countWays_L26 a1 ((S.1 1 0) - (1 : Int32)) x3_1 n x4_2 Sx ≠ none →
            (∀ v : SS, f_Rows_countWays_L26 a1 ((S.1 1 0) - (1 : Int32)) x3_1 n x4_2 Sx = some v → ∀ (H : Heap) (locs : List Loc) (ls : Array Slot), va_P D vwCl (X cA ad v) H → va_S A s.heap H locs → lv_has ls 5 [(0, .ref (ad 4)), (1, .int a1), (2, .int ((S.1 1 0) - (1 : Int32))), (3, .int x3_1)] → W p l e (headSpec w_Rows_countWays ({ frames := 4, cells := 0, slots := 0, locals := 93 })).room s m ([.ref (ad 4), .int a1] : List Value).toArray below meth c H locs 0 0 Q (F0 m 63 ls [])) →
            W p l e (headSpec w_Rows_countWays ({ frames := 4, cells := 0, slots := 0, locals := 93 })).room s m ([.ref (ad 4), .int a1] : List Value).toArray below meth c H locs 0 0 Q (F0 m 26 ls []) := by
          intro n
          induction n with
          | zero => intro x4_2 Sx H locs ls hP hS hl hs; exact absurd rfl hs
          | succ n ih =>
            intro x4_2 Sx H locs ls hP hS hl hs hexit
            have hf := (f_Rows_countWays_L26_s a1 ((S.1 1 0) - (1 : Int32)) x3_1 n x4_2 Sx).symm
            refine lv_iload hx hb d_Rows_countWays_26 (lv_at hl 4 rfl) ?_
            refine lv_bipush (v := 64) hx hb d_Rows_countWays_28 (by decide) ?_
            refine lv_icmp_ge (tgt := 63) hx hb d_Rows_countWays_30 (by decide) (fun c2 => ?_) (fun c2 => ?_)
            · rw [if_pos c2] at hf
              exact hexit _ hf.symm _ _ _ hP hS (lv_sub hl [0, 1, 2, 3] rfl)
            · rw [if_neg c2] at hf
              refine lv_aload_n hx hb d_Rows_countWays_33 rfl (lv_at hl 0 rfl) ?_
              refine va_get (D := D) (ci := 4) (v := .ref (ad 9)) (C := R_Rows) (T := T_Rows) (N := 3) hx hb ht i_Rows hown hK hP 4 Xa_4 rfl 2 (by decide) (ht _ mF_Rows_11) (fun _ h9 => h9) rfl d_Rows_countWays_34 ?_
              refine lv_iload_n hx hb d_Rows_countWays_37 rfl (lv_at hl 2 rfl) ?_
              by_cases b3 : oob ((S.1 1 0) - (1 : Int32)) 6
              · rw [if_pos b3] at hf; exact absurd hf.symm hs
              rw [if_neg b3] at hf
              refine gz_aald hx hb hK hP 9 2 Xa_9 rfl b3 d_Rows_countWays_38 ?_
              rw [X_row b3]
              refine lv_iload_n hx hb d_Rows_countWays_39 rfl (lv_at hl 3 rfl) ?_
              refine lv_iload hx hb d_Rows_countWays_40 (lv_at hl 4 rfl) ?_
              refine va_calli (va_runS (As := [.int x3_1, .int x4_2]) (rest := [.ref (ad (27 + ((S.1 1 0) - (1 : Int32)).toNatClampNeg))]) ⟨hx, hb, hml, hown, ht⟩ (c_Rows_state l D cA ad hI H.size x3_1 x4_2 Sx (fun hn => hs (by rw [hn] at hf; exact hf.symm))) (va_cwS 2 ht (good_G (gS mM_Rows_40 mS_Rows_state mN_Rows mk_Rows_state)) rfl rfl rfl (by decide +kernel) ⟨Nat.le_of_ble_eq_true rfl, Nat.le_of_ble_eq_true rfl⟩) ⟨fun a U g mk q => ⟨q.1, q.2.1, q.2.2.1, va_K.moved (u := U) (U := U.calling g mk a) (Vm.Alike.refl U.vm) q.2.2.2⟩, fun U hU hW => ⟨rfl, by rw [hU], by rw [hU]; exact hP, va_K.moved hW.alike hK⟩⟩ rfl rfl hl.1 rfl (lv_room (Nat.le_of_ble_eq_true rfl)) d_Rows_countWays_42 ⟨Nat.le_of_ble_eq_true rfl, Nat.le_of_ble_eq_true rfl⟩) hS (fun q _ h => hAS _ hS.1 q h) (fun q h => hAS _ hS.1 q h) (fun r1 _ t H locs ht9 hvm hw hB hz1 hk1 hS => ?_)
              obtain ⟨hP, hK9⟩ := hB
              rw [ht9] at hP
              rw [hw, Option.bind_some] at hf
              refine lv_iload hx hb d_Rows_countWays_45 (lv_at hl 4 rfl) ?_
              refine lv_iload_n hx hb d_Rows_countWays_47 rfl (lv_at hl 1 rfl) ?_
              refine lv_icmp_ne (tgt := 55) hx hb d_Rows_countWays_48 (by decide) (fun c4 => ?_) (fun c4 => ?_)
              · rw [if_neg c4] at hf
                refine lv_iconst (v := 0) hx hb d_Rows_countWays_55 (by decide) ?_
                by_cases b5 : oob r1 512
                · rw [if_pos b5] at hf; exact absurd hf.symm hs
                rw [if_neg b5] at hf
                refine va_iast hx hb hK hP (X_D hI hAd) hS (27 + ((S.1 1 0) - (1 : Int32)).toNatClampNeg) 0 (X_rowat9 b3) rfl b5 d_Rows_countWays_56 (fun H locs hP _ hS => ?_)
                replace hP := X_stI (X_rowlt9 b3) (X_rowcell9 b3) hP
                refine lv_iinc (v := x4_2 + 1) (lv' := [(4, .int (x4_2 + 1)), (0, .ref (ad 4)), (1, .int a1), (2, .int ((S.1 1 0) - (1 : Int32))), (3, .int x3_1)]) hx hb d_Rows_countWays_57 hl (k := 4) rfl rfl (by decide) rfl (fun ls hl => ?_)
                refine lv_goto (tgt := 26) hx hb d_Rows_countWays_60 (by decide) ?_
                exact ih (x4_2 + 1) (wI Sx (27 + ((S.1 1 0) - (1 : Int32)).toNatClampNeg) r1.toNatClampNeg (0 : Int32)) _ _ _ hP hS (lv_sub hl [1, 2, 3, 4, 0] rfl) (fun hn => hs (hf.symm.trans hn)) (fun v ho => hexit v (hf.symm.trans ho))
              · rw [if_pos c4] at hf
                refine lv_iconst (v := 1) hx hb d_Rows_countWays_51 (by decide) ?_
                refine lv_goto (tgt := 56) hx hb d_Rows_countWays_52 (by decide) ?_
                by_cases b6 : oob r1 512
                · rw [if_pos b6] at hf; exact absurd hf.symm hs
                rw [if_neg b6] at hf
                refine va_iast hx hb hK hP (X_D hI hAd) hS (27 + ((S.1 1 0) - (1 : Int32)).toNatClampNeg) 0 (X_rowat9 b3) rfl b6 d_Rows_countWays_56 (fun H locs hP _ hS => ?_)
                replace hP := X_stI (X_rowlt9 b3) (X_rowcell9 b3) hP
                refine lv_iinc (v := x4_2 + 1) (lv' := [(4, .int (x4_2 + 1)), (0, .ref (ad 4)), (1, .int a1), (2, .int ((S.1 1 0) - (1 : Int32))), (3, .int x3_1)]) hx hb d_Rows_countWays_57 hl (k := 4) rfl rfl (by decide) rfl (fun ls hl => ?_)
                refine lv_goto (tgt := 26) hx hb d_Rows_countWays_60 (by decide) ?_
                exact ih (x4_2 + 1) (wI Sx (27 + ((S.1 1 0) - (1 : Int32)).toNatClampNeg) r1.toNatClampNeg (1 : Int32)) _ _ _ hP hS (lv_sub hl [1, 2, 3, 4, 0] rfl) (fun hn => hs (hf.symm.trans hn)) (fun v ho => hexit v (hf.symm.trans ho))
        refine lp26_2 FU (0 : Int32) Sx _ _ _ hP hS (lv_sub hl [1, 2, 3, 4, 0] rfl) (fun hn => ?_) (fun v7 hvv7 H locs ls hP hS hl => ?_)
        · rw [hn] at hf; exact hs hf.symm
        · rw [hvv7, Option.bind_some] at hf
          refine lv_iinc (v := x3_1 + 1) (lv' := [(3, .int (x3_1 + 1)), (0, .ref (ad 4)), (1, .int a1), (2, .int ((S.1 1 0) - (1 : Int32)))]) hx hb d_Rows_countWays_63 hl (k := 3) rfl rfl (by decide) rfl (fun ls hl => ?_)
          refine lv_goto (tgt := 12) hx hb d_Rows_countWays_66 (by decide) ?_
          exact ih (x3_1 + 1) v7 _ _ _ hP hS (lv_sub hl [1, 2, 3, 0] rfl) (fun hn => hs (hf.symm.trans hn)) (fun v ho => hexit v (hf.symm.trans ho))
  refine lp12_1 FU (0 : Int32) S _ _ _ hP hS (lv_sub hl [2, 3, 1, 0] rfl) (fun hn => ?_) (fun v8 hvv8 H locs ls hP hS hl => ?_)
  · rw [hn] at hf; exact hs hf.symm
  · rw [hvv8, Option.bind_some] at hf
    refine lv_iload_n hx hb d_Rows_countWays_69 rfl (lv_at hl 2 rfl) ?_
    refine lv_iconst (v := 1) hx hb d_Rows_countWays_70 (by decide) ?_
    refine lv_isub hx hb d_Rows_countWays_71 ?_
    refine lv_istore_n (lv' := [(3, .int (((S.1 1 0) - (1 : Int32)) - (1 : Int32))), (0, .ref (ad 4)), (1, .int a1), (2, .int ((S.1 1 0) - (1 : Int32)))]) hx hb d_Rows_countWays_72 rfl hl (by decide) rfl (fun ls hl => ?_)
    have lp73_3 : ∀ (n : Nat) (x3_3 : Int32) (Sx : SS) (H : Heap) (locs : List Loc) (ls : Array Slot), va_P D vwCl (X cA ad Sx) H → va_S A s.heap H locs → lv_has ls 5 [(0, .ref (ad 4)), (3, .int x3_3)] → f_Rows_countWays_L73 n x3_3 Sx ≠ none →
        (∀ v : SS, f_Rows_countWays_L73 n x3_3 Sx = some v → ∀ (H : Heap) (locs : List Loc) (ls : Array Slot), va_P D vwCl (X cA ad v) H → va_S A s.heap H locs → lv_has ls 5 [(0, .ref (ad 4))] → W p l e (headSpec w_Rows_countWays ({ frames := 4, cells := 0, slots := 0, locals := 93 })).room s m ([.ref (ad 4), .int a1] : List Value).toArray below meth c H locs 0 0 Q (F0 m 88 ls [])) →
        W p l e (headSpec w_Rows_countWays ({ frames := 4, cells := 0, slots := 0, locals := 93 })).room s m ([.ref (ad 4), .int a1] : List Value).toArray below meth c H locs 0 0 Q (F0 m 73 ls []) := by
      intro n
      induction n with
      | zero => intro x3_3 Sx H locs ls hP hS hl hs; exact absurd rfl hs
      | succ n ih =>
        intro x3_3 Sx H locs ls hP hS hl hs hexit
        have hf := (f_Rows_countWays_L73_s n x3_3 Sx).symm
        refine lv_iload_n hx hb d_Rows_countWays_73 rfl (lv_at hl 1 rfl) ?_
        refine lv_if_lt (tgt := 88) hx hb d_Rows_countWays_74 (by decide) (fun c9 => ?_) (fun c9 => ?_)
        · rw [if_pos c9] at hf
          exact hexit _ hf.symm _ _ _ hP hS (lv_sub hl [0] rfl)
        · rw [if_neg c9] at hf
          refine lv_aload_n hx hb d_Rows_countWays_77 rfl (lv_at hl 0 rfl) ?_
          refine lv_iload_n hx hb d_Rows_countWays_78 rfl (lv_at hl 1 rfl) ?_
          refine va_callv (va_runV (As := [.int x3_3]) (rest := []) ⟨hx, hb, hml, hown, ht⟩ (c_Rows_countWaysBehind l D cA ad hI H.size x3_3 Sx (fun hn => hs (by rw [hn] at hf; exact hf.symm))) (cwV 1 ht (good_G (gV mM_Rows_72 mI_Rows_countWaysBehind mV_Rows_countWaysBehind mN_Rows mk_Rows_countWaysBehind)) rfl rfl rfl (by decide +kernel) ⟨Nat.le_of_ble_eq_true rfl, Nat.le_of_ble_eq_true rfl⟩) ⟨fun a U g mk q => ⟨q.1, q.2.1, q.2.2.1, va_K.moved (u := U) (U := U.calling g mk a) (Vm.Alike.refl U.vm) q.2.2.2⟩, va_recv hK hP (ci := 4) (q0 := 4) rfl Xa_4, fun U hU hW => ⟨rfl, by rw [hU], by rw [hU]; exact hP, va_K.moved hW.alike hK⟩⟩ rfl rfl hl.1 rfl (lv_room (Nat.le_of_ble_eq_true rfl)) d_Rows_countWays_79 ⟨Nat.le_of_ble_eq_true rfl, Nat.le_of_ble_eq_true rfl⟩) hS (fun q _ h => hAS _ hS.1 q h) (fun q h => hAS _ hS.1 q h) (fun u2 t H locs ht9 hvm hw hB hz1 hk1 hS => ?_)
          obtain ⟨hP, hK9⟩ := hB
          rw [ht9] at hP
          rw [hw, Option.bind_some] at hf
          refine lv_iinc (v := x3_3 + (-1)) (lv' := [(3, .int (x3_3 + (-1))), (0, .ref (ad 4))]) hx hb d_Rows_countWays_82 hl (k := 1) rfl rfl (by decide) rfl (fun ls hl => ?_)
          refine lv_goto (tgt := 73) hx hb d_Rows_countWays_85 (by decide) ?_
          exact ih (x3_3 + (-1)) u2 _ _ _ hP hS (lv_sub hl [1, 0] rfl) (fun hn => hs (hf.symm.trans hn)) (fun v ho => hexit v (hf.symm.trans ho))
    refine lp73_3 FU (((S.1 1 0) - (1 : Int32)) - (1 : Int32)) v8 _ _ _ hP hS (lv_sub hl [1, 0] rfl) (fun hn => ?_) (fun v10 hvv10 H locs ls hP hS hl => ?_)
    · rw [hn] at hf; exact hs hf.symm
    · rw [hvv10, Option.bind_some] at hf
      rw [← hQ]
      exact W.vret hx hb hr (fun t ht hW => ⟨⟨v10, rfl, hf.symm, by rw [ht]; exact hP, va_K.moved hW.alike hK⟩, hS.F ht⟩) hS.2.2 d_Rows_countWays_88
set_option maxHeartbeats 4000000 in
set_option maxRecDepth 100000 in
theorem c_Rows_countFree (l : Launch) (D : va_G) (cA : Nat → ClassId) (ad : Nat → Nat) (hI : InjA ad) (sz : Nat) (a1 : Int32) (S : SS) (hs : f_Rows_countFree a1 S ≠ none) : Met l y_Rows_countFree w_Rows_countFree ({ frames := 5, cells := 0, slots := 0, locals := 117 }) (va_Pc [.ref (ad 4), .int a1] (fun U => U.heap.size = sz ∧ va_P D vwCl (X cA ad S) U.heap ∧ va_K D vwCl (tysX cA) U)) (va_Qi (fun (r : Int32) (u : SS) => f_Rows_countFree a1 S = some (r, u)) (fun (u : SS) t => va_P D vwCl (X cA ad u) t.heap ∧ va_K D vwCl (tysX cA) t) (AS ad sz)) 0 0 (AS ad sz) := by
  refine Met.ofW (cc := b_Rows_countFree) (maxL := 4) (ret := (some .int)) (by decide) rfl ?_
  intro p e s m args below meth c s₁ B hml hv
  obtain ⟨rfl, hsz, hP, hK⟩ := hv
  have hx := B.exec
  have hb := B.bytes
  have hr := B.returns
  have hts := atoms_spec (ws := w_Rows_countFree) B.pre
  have ht := fun w h => hts w (List.mem_cons_of_mem _ h)
  have hown : s.vm.findClass R_Rows = some m.cls := findClass_of_methodNamed B.named
  have hlocks := B.notSynchronized
  subst hsz
  have hAd : ∀ q, q < NP → AS ad s.heap.size (ad q) := fun q h => Or.inl ⟨q, h, rfl⟩
  have hA : ∀ q : Nat, s.heap.size ≤ q → AS ad s.heap.size q := fun q h => Or.inr h
  have hAS : ∀ z : Nat, s.heap.size ≤ z → ∀ q : Nat, AS ad z q → AS ad s.heap.size q := fun z h q hq => hq.elim Or.inl (fun g => Or.inr (Nat.le_trans h g))
  generalize hAe : AS ad s.heap.size = A at hAd hA hAS ⊢
  have hS : va_S A s.heap s.heap [] := va_S.rf
  have hl := lv_entry ([.ref (ad 4), .int a1]) (n := 4) (Nat.le_of_ble_eq_true rfl)
  rw [lg_entry_eq]
  generalize (lg_sl ([.ref (ad 4), .int a1]) ++ List.replicate (4 - (lg_sl ([.ref (ad 4), .int a1])).length) Slot.unset).toArray = ls at hl ⊢
  have hl : lv_has ls 4 [(0, .ref (ad 4)), (1, .int a1)] := hl
  have hf := (f_Rows_countFree_s a1 S).symm
  generalize hQ : MQ below _ _ s _ _ _ = Q
  refine lv_aload_n hx hb d_Rows_countFree_0 rfl (lv_at hl 0 rfl) ?_
  refine lv_iload_n hx hb d_Rows_countFree_1 rfl (lv_at hl 1 rfl) ?_
  refine va_callv (va_runV (As := [.int a1]) (rest := []) ⟨hx, hb, hml, hown, ht⟩ (c_Rows_countWays l D cA ad hI s.heap.size a1 S (fun hn => hs (by rw [hn] at hf; exact hf.symm))) (cwV 1 ht (good_G (gV mM_Rows_24 mI_Rows_countWays mV_Rows_countWays mN_Rows mk_Rows_countWays)) rfl rfl rfl (by decide +kernel) ⟨Nat.le_of_ble_eq_true rfl, Nat.le_of_ble_eq_true rfl⟩) ⟨fun a U g mk q => ⟨q.1, q.2.1, q.2.2.1, va_K.moved (u := U) (U := U.calling g mk a) (Vm.Alike.refl U.vm) q.2.2.2⟩, va_recv hK hP (ci := 4) (q0 := 4) rfl Xa_4, fun U hU hW => ⟨rfl, by rw [hU], by rw [hU]; exact hP, va_K.moved hW.alike hK⟩⟩ rfl rfl hl.1 rfl (lv_room (Nat.le_of_ble_eq_true rfl)) d_Rows_countFree_2 ⟨Nat.le_of_ble_eq_true rfl, Nat.le_of_ble_eq_true rfl⟩) hS (fun q _ h => hAS _ hS.1 q h) (fun q h => hAS _ hS.1 q h) (fun u1 t H locs ht9 hvm hw hB hz1 hk1 hS => ?_)
  obtain ⟨hP, hK9⟩ := hB
  rw [ht9] at hP
  rw [hw, Option.bind_some] at hf
  refine lv_iconst (v := 0) hx hb d_Rows_countFree_5 (by decide) ?_
  refine lv_istore_n (lv' := [(2, .int (0 : Int32)), (0, .ref (ad 4)), (1, .int a1)]) hx hb d_Rows_countFree_6 rfl hl (by decide) rfl (fun ls hl => ?_)
  refine lv_iconst (v := 0) hx hb d_Rows_countFree_7 (by decide) ?_
  refine lv_istore_n (lv' := [(3, .int (0 : Int32)), (2, .int (0 : Int32)), (0, .ref (ad 4)), (1, .int a1)]) hx hb d_Rows_countFree_8 rfl hl (by decide) rfl (fun ls hl => ?_)
  have lp9_1 : ∀ (n : Nat) (x2_1 : Int32) (x3_1 : Int32) (H : Heap) (locs : List Loc) (ls : Array Slot), va_P D vwCl (X cA ad u1) H → va_S A s.heap H locs → lv_has ls 4 [(0, .ref (ad 4)), (1, .int a1), (2, .int x2_1), (3, .int x3_1)] → f_Rows_countFree_L9 a1 n x2_1 x3_1 u1 ≠ none →
      (∀ v : Int32, f_Rows_countFree_L9 a1 n x2_1 x3_1 u1 = some v → ∀ (H : Heap) (locs : List Loc) (ls : Array Slot), va_P D vwCl (X cA ad u1) H → va_S A s.heap H locs → lv_has ls 4 [(0, .ref (ad 4)), (1, .int a1), (2, .int v)] → W p l e (headSpec w_Rows_countFree ({ frames := 5, cells := 0, slots := 0, locals := 117 })).room s m ([.ref (ad 4), .int a1] : List Value).toArray below meth c H locs 0 0 Q (F0 m 49 ls [])) →
      W p l e (headSpec w_Rows_countFree ({ frames := 5, cells := 0, slots := 0, locals := 117 })).room s m ([.ref (ad 4), .int a1] : List Value).toArray below meth c H locs 0 0 Q (F0 m 9 ls []) := by
    intro n
    induction n with
    | zero => intro x2_1 x3_1 H locs ls hP hS hl hs; exact absurd rfl hs
    | succ n ih =>
      intro x2_1 x3_1 H locs ls hP hS hl hs hexit
      have hf := (f_Rows_countFree_L9_s a1 n x2_1 x3_1 u1).symm
      refine lv_iload_n hx hb d_Rows_countFree_9 rfl (lv_at hl 3 rfl) ?_
      refine lv_aload_n hx hb d_Rows_countFree_10 rfl (lv_at hl 0 rfl) ?_
      refine va_get (D := D) (ci := 4) (v := .ref (ad 1)) (C := R_Rows) (T := T_Rows) (N := 3) hx hb ht i_Rows hown hK hP 4 Xa_4 rfl 0 (by decide) (ht _ mF_Rows_16) (fun _ h9 => h9) rfl d_Rows_countFree_11 ?_
      refine va_get (D := D) (ci := 1) (v := .int (u1.1 1 1)) (C := R_Law) (T := T_Law) (N := 5) hx hb ht i_Law hown hK hP 1 Xa_1 rfl 1 (by decide) (ht _ mF_Rows_28) (fun _ h9 => h9) rfl d_Rows_countFree_14 ?_
      refine lv_icmp_ge (tgt := 49) hx hb d_Rows_countFree_17 (by decide) (fun c1 => ?_) (fun c1 => ?_)
      · rw [if_pos c1] at hf
        exact hexit _ hf.symm _ _ _ hP hS (lv_sub hl [0, 1, 2] rfl)
      · rw [if_neg c1] at hf
        refine lv_iload_n hx hb d_Rows_countFree_20 rfl (lv_at hl 2 rfl) ?_
        refine lv_aload_n hx hb d_Rows_countFree_21 rfl (lv_at hl 0 rfl) ?_
        refine va_get (D := D) (ci := 4) (v := .ref (ad 9)) (C := R_Rows) (T := T_Rows) (N := 3) hx hb ht i_Rows hown hK hP 4 Xa_4 rfl 2 (by decide) (ht _ mF_Rows_11) (fun _ h9 => h9) rfl d_Rows_countFree_22 ?_
        refine lv_iconst (v := 0) hx hb d_Rows_countFree_25 (by decide) ?_
        by_cases b2 : oob (0 : Int32) 6
        · rw [if_pos b2] at hf; exact absurd hf.symm hs
        rw [if_neg b2] at hf
        refine gz_aald hx hb hK hP 9 2 Xa_9 rfl b2 d_Rows_countFree_26 ?_
        rw [X_row b2]
        refine lv_iload_n hx hb d_Rows_countFree_27 rfl (lv_at hl 3 rfl) ?_
        refine lv_aload_n hx hb d_Rows_countFree_28 rfl (lv_at hl 0 rfl) ?_
        refine va_get (D := D) (ci := 4) (v := .ref (ad 2)) (C := R_Rows) (T := T_Rows) (N := 3) hx hb ht i_Rows hown hK hP 4 Xa_4 rfl 1 (by decide) (ht _ mF_Rows_20) (fun _ h9 => h9) rfl d_Rows_countFree_29 ?_
        refine lv_iconst (v := 0) hx hb d_Rows_countFree_32 (by decide) ?_
        refine lv_iload_n hx hb d_Rows_countFree_33 rfl (lv_at hl 3 rfl) ?_
        refine va_calli (va_runV (As := [.int (0 : Int32), .int x3_1]) (rest := [.int x3_1, .ref (ad (27 + (0 : Int32).toNatClampNeg)), .int x2_1]) ⟨hx, hb, hml, hown, ht⟩ (c_Board_doorsHolding l D cA ad hI H.size (0 : Int32) x3_1 u1 (fun hn => hs (by rw [hn] at hf; exact hf.symm))) (cwV 2 ht (good_G (gV mM_Rows_34 mI_Board_doorsHolding mV_Board_doorsHolding mN_Board mk_Board_doorsHolding)) rfl rfl rfl (by decide +kernel) ⟨Nat.le_of_ble_eq_true rfl, Nat.le_of_ble_eq_true rfl⟩) ⟨fun a U g mk q => ⟨q.1, q.2.1, q.2.2.1, va_K.moved (u := U) (U := U.calling g mk a) (Vm.Alike.refl U.vm) q.2.2.2⟩, va_recv hK hP (ci := 2) (q0 := 2) rfl Xa_2, fun U hU hW => ⟨rfl, by rw [hU], by rw [hU]; exact hP, va_K.moved hW.alike hK⟩⟩ rfl rfl hl.1 rfl (lv_room (Nat.le_of_ble_eq_true rfl)) d_Rows_countFree_34 ⟨Nat.le_of_ble_eq_true rfl, Nat.le_of_ble_eq_true rfl⟩) hS (fun q _ h => hAS _ hS.1 q h) (fun q h => hAS _ hS.1 q h) (fun r2 _ t H locs ht9 hvm hw hB hz1 hk1 hS => ?_)
        obtain ⟨hP, hK9⟩ := hB
        rw [ht9] at hP
        rw [hw, Option.bind_some] at hf
        refine va_calli (va_runS (As := [.int x3_1, .int r2]) (rest := [.ref (ad (27 + (0 : Int32).toNatClampNeg)), .int x2_1]) ⟨hx, hb, hml, hown, ht⟩ (c_Rows_state l D cA ad hI H.size x3_1 r2 u1 (fun hn => hs (by rw [hn] at hf; exact hf.symm))) (va_cwS 2 ht (good_G (gS mM_Rows_40 mS_Rows_state mN_Rows mk_Rows_state)) rfl rfl rfl (by decide +kernel) ⟨Nat.le_of_ble_eq_true rfl, Nat.le_of_ble_eq_true rfl⟩) ⟨fun a U g mk q => ⟨q.1, q.2.1, q.2.2.1, va_K.moved (u := U) (U := U.calling g mk a) (Vm.Alike.refl U.vm) q.2.2.2⟩, fun U hU hW => ⟨rfl, by rw [hU], by rw [hU]; exact hP, va_K.moved hW.alike hK⟩⟩ rfl rfl hl.1 rfl (lv_room (Nat.le_of_ble_eq_true rfl)) d_Rows_countFree_37 ⟨Nat.le_of_ble_eq_true rfl, Nat.le_of_ble_eq_true rfl⟩) hS (fun q _ h => hAS _ hS.1 q h) (fun q h => hAS _ hS.1 q h) (fun r3 _ t H locs ht9 hvm hw hB hz1 hk1 hS => ?_)
        obtain ⟨hP, hK9⟩ := hB
        rw [ht9] at hP
        rw [hw, Option.bind_some] at hf
        by_cases b3 : oob r3 512
        · rw [if_pos b3] at hf; exact absurd hf.symm hs
        rw [if_neg b3] at hf
        refine va_iald (f := u1.1 (27 + (0 : Int32).toNatClampNeg)) hx hb hK hP (27 + (0 : Int32).toNatClampNeg) 0 (X_rowat9 b2) rfl b3 d_Rows_countFree_40 ?_
        refine lv_iadd hx hb d_Rows_countFree_41 ?_
        refine lv_istore_n (lv' := [(2, .int (x2_1 + (u1.1 (27 + (0 : Int32).toNatClampNeg) r3.toNatClampNeg))), (0, .ref (ad 4)), (1, .int a1), (3, .int x3_1)]) hx hb d_Rows_countFree_42 rfl hl (by decide) rfl (fun ls hl => ?_)
        refine lv_iinc (v := x3_1 + 1) (lv' := [(3, .int (x3_1 + 1)), (2, .int (x2_1 + (u1.1 (27 + (0 : Int32).toNatClampNeg) r3.toNatClampNeg))), (0, .ref (ad 4)), (1, .int a1)]) hx hb d_Rows_countFree_43 hl (k := 3) rfl rfl (by decide) rfl (fun ls hl => ?_)
        refine lv_goto (tgt := 9) hx hb d_Rows_countFree_46 (by decide) ?_
        exact ih (x2_1 + (u1.1 (27 + (0 : Int32).toNatClampNeg) r3.toNatClampNeg)) (x3_1 + 1) _ _ _ hP hS (lv_sub hl [2, 3, 1, 0] rfl) (fun hn => hs (hf.symm.trans hn)) (fun v ho => hexit v (hf.symm.trans ho))
  refine lp9_1 FU (0 : Int32) (0 : Int32) _ _ _ hP hS (lv_sub hl [2, 3, 1, 0] rfl) (fun hn => ?_) (fun v4 hvv4 H locs ls hP hS hl => ?_)
  · rw [hn] at hf; exact hs hf.symm
  · rw [hvv4, Option.bind_some] at hf
    refine lv_iload_n hx hb d_Rows_countFree_49 rfl (lv_at hl 2 rfl) ?_
    refine lv_aload_n hx hb d_Rows_countFree_50 rfl (lv_at hl 0 rfl) ?_
    refine va_get (D := D) (ci := 4) (v := .ref (ad 2)) (C := R_Rows) (T := T_Rows) (N := 3) hx hb ht i_Rows hown hK hP 4 Xa_4 rfl 1 (by decide) (ht _ mF_Rows_20) (fun _ h9 => h9) rfl d_Rows_countFree_51 ?_
    refine lv_lconst (v := 0) hx hb d_Rows_countFree_54 (by decide) ?_
    refine lv_iload_n hx hb d_Rows_countFree_55 rfl (lv_at hl 1 rfl) ?_
    refine va_calli (va_runV (As := [.long (0 : Int64), .int a1]) (rest := [.int v4]) ⟨hx, hb, hml, hown, ht⟩ (c_Board_countKeys l D cA ad hI H.size (0 : Int64) a1 u1 (fun hn => hs (by rw [hn] at hf; exact hf.symm))) (cwV 2 ht (good_G (gV mM_Rows_43 mI_Board_countKeys mV_Board_countKeys mN_Board mk_Board_countKeys)) rfl rfl rfl (by decide +kernel) ⟨Nat.le_of_ble_eq_true rfl, Nat.le_of_ble_eq_true rfl⟩) ⟨fun a U g mk q => ⟨q.1, q.2.1, q.2.2.1, va_K.moved (u := U) (U := U.calling g mk a) (Vm.Alike.refl U.vm) q.2.2.2⟩, va_recv hK hP (ci := 2) (q0 := 2) rfl Xa_2, fun U hU hW => ⟨rfl, by rw [hU], by rw [hU]; exact hP, va_K.moved hW.alike hK⟩⟩ rfl rfl hl.1 rfl (lv_room (Nat.le_of_ble_eq_true rfl)) d_Rows_countFree_56 ⟨Nat.le_of_ble_eq_true rfl, Nat.le_of_ble_eq_true rfl⟩) hS (fun q _ h => hAS _ hS.1 q h) (fun q h => hAS _ hS.1 q h) (fun r4 _ t H locs ht9 hvm hw hB hz1 hk1 hS => ?_)
    obtain ⟨hP, hK9⟩ := hB
    rw [ht9] at hP
    rw [hw, Option.bind_some] at hf
    refine lv_isub hx hb d_Rows_countFree_59 ?_
    rw [← hQ]
    exact W.iret (v := v4 - r4) hx hb hr (fun t ht hW => ⟨⟨v4 - r4, u1, rfl, hf.symm, by rw [ht]; exact hP, va_K.moved hW.alike hK⟩, hS.F ht⟩) hS.2.2 d_Rows_countFree_60
set_option maxHeartbeats 4000000 in
set_option maxRecDepth 100000 in
theorem c_Rows_leastDepth (l : Launch) (D : va_G) (cA : Nat → ClassId) (ad : Nat → Nat) (hI : InjA ad) (sz : Nat) (a1 : Int32) (a2 : Int32) (a3 : Int32) (a4 : Int64) (a6 : Int32) (S : SS) (hs : f_Rows_leastDepth a1 a2 a3 a4 a6 S ≠ none) : Met l y_Rows_leastDepth w_Rows_leastDepth ({ frames := 4, cells := 0, slots := 0, locals := 93 }) (va_Pc [.ref (ad 4), .int a1, .int a2, .int a3, .long a4, .int a6] (fun U => U.heap.size = sz ∧ va_P D vwCl (X cA ad S) U.heap ∧ va_K D vwCl (tysX cA) U)) (va_Qi (fun (r : Int32) (_ : Unit) => f_Rows_leastDepth a1 a2 a3 a4 a6 S = some r) (fun (_ : Unit) t => va_P D vwCl (X cA ad S) t.heap ∧ va_K D vwCl (tysX cA) t) (AS ad sz)) 0 0 (AS ad sz) := by
  refine Met.ofW (cc := b_Rows_leastDepth) (maxL := 10) (ret := (some .int)) (by decide) rfl ?_
  intro p e s m args below meth c s₁ B hml hv
  obtain ⟨rfl, hsz, hP, hK⟩ := hv
  have hx := B.exec
  have hb := B.bytes
  have hr := B.returns
  have hts := atoms_spec (ws := w_Rows_leastDepth) B.pre
  have ht := fun w h => hts w (List.mem_cons_of_mem _ h)
  have hown : s.vm.findClass R_Rows = some m.cls := findClass_of_methodNamed B.named
  have hlocks := B.notSynchronized
  subst hsz
  have hAd : ∀ q, q < NP → AS ad s.heap.size (ad q) := fun q h => Or.inl ⟨q, h, rfl⟩
  have hA : ∀ q : Nat, s.heap.size ≤ q → AS ad s.heap.size q := fun q h => Or.inr h
  have hAS : ∀ z : Nat, s.heap.size ≤ z → ∀ q : Nat, AS ad z q → AS ad s.heap.size q := fun z h q hq => hq.elim Or.inl (fun g => Or.inr (Nat.le_trans h g))
  generalize hAe : AS ad s.heap.size = A at hAd hA hAS ⊢
  have hS : va_S A s.heap s.heap [] := va_S.rf
  have hl := lv_entry ([.ref (ad 4), .int a1, .int a2, .int a3, .long a4, .int a6]) (n := 10) (Nat.le_of_ble_eq_true rfl)
  rw [lg_entry_eq]
  generalize (lg_sl ([.ref (ad 4), .int a1, .int a2, .int a3, .long a4, .int a6]) ++ List.replicate (10 - (lg_sl ([.ref (ad 4), .int a1, .int a2, .int a3, .long a4, .int a6])).length) Slot.unset).toArray = ls at hl ⊢
  have hl : lv_has ls 10 [(0, .ref (ad 4)), (1, .int a1), (2, .int a2), (3, .int a3), (4, .long a4), (6, .int a6)] := hl
  have hf := (f_Rows_leastDepth_s a1 a2 a3 a4 a6 S).symm
  generalize hQ : MQ below _ _ s _ _ _ = Q
  refine lv_iconst (v := 0) hx hb d_Rows_leastDepth_0 (by decide) ?_
  refine lv_istore (lv' := [(7, .int (0 : Int32)), (0, .ref (ad 4)), (1, .int a1), (2, .int a2), (3, .int a3), (4, .long a4), (6, .int a6)]) hx hb d_Rows_leastDepth_1 hl (by decide) rfl (fun ls hl => ?_)
  have lp3_1 : ∀ (n : Nat) (x7_1 : Int32) (H : Heap) (locs : List Loc) (ls : Array Slot), va_P D vwCl (X cA ad S) H → va_S A s.heap H locs → lv_has ls 10 [(0, .ref (ad 4)), (1, .int a1), (2, .int a2), (3, .int a3), (4, .long a4), (6, .int a6), (7, .int x7_1)] → f_Rows_leastDepth_L3 a1 a2 a3 a4 a6 n x7_1 S ≠ none →
      (∀ o : Int32, f_Rows_leastDepth_L3 a1 a2 a3 a4 a6 n x7_1 S = some (.inl o) → f_Rows_leastDepth a1 a2 a3 a4 a6 S = some o) →
      (∀ v : Unit, f_Rows_leastDepth_L3 a1 a2 a3 a4 a6 n x7_1 S = some (.inr v) → ∀ (H : Heap) (locs : List Loc) (ls : Array Slot), va_P D vwCl (X cA ad S) H → va_S A s.heap H locs → lv_has ls 10 [(0, .ref (ad 4)), (1, .int a1), (2, .int a2), (3, .int a3), (4, .long a4), (6, .int a6)] → W p l e (headSpec w_Rows_leastDepth ({ frames := 4, cells := 0, slots := 0, locals := 93 })).room s m ([.ref (ad 4), .int a1, .int a2, .int a3, .long a4, .int a6] : List Value).toArray below meth c H locs 0 0 Q (F0 m 95 ls [])) →
      W p l e (headSpec w_Rows_leastDepth ({ frames := 4, cells := 0, slots := 0, locals := 93 })).room s m ([.ref (ad 4), .int a1, .int a2, .int a3, .long a4, .int a6] : List Value).toArray below meth c H locs 0 0 Q (F0 m 3 ls []) := by
    intro n
    induction n with
    | zero => intro x7_1 H locs ls hP hS hl hs; exact absurd rfl hs
    | succ n ih =>
      intro x7_1 H locs ls hP hS hl hs hret hexit
      have hf := (f_Rows_leastDepth_L3_s a1 a2 a3 a4 a6 n x7_1 S).symm
      refine lv_iload hx hb d_Rows_leastDepth_3 (lv_at hl 6 rfl) ?_
      refine lv_aload_n hx hb d_Rows_leastDepth_5 rfl (lv_at hl 0 rfl) ?_
      refine va_get (D := D) (ci := 4) (v := .ref (ad 1)) (C := R_Rows) (T := T_Rows) (N := 3) hx hb ht i_Rows hown hK hP 4 Xa_4 rfl 0 (by decide) (ht _ mF_Rows_16) (fun _ h9 => h9) rfl d_Rows_leastDepth_6 ?_
      refine va_get (D := D) (ci := 1) (v := .int (S.1 1 1)) (C := R_Law) (T := T_Law) (N := 5) hx hb ht i_Law hown hK hP 1 Xa_1 rfl 1 (by decide) (ht _ mF_Rows_28) (fun _ h9 => h9) rfl d_Rows_leastDepth_9 ?_
      refine lv_icmp_ge (tgt := 95) hx hb d_Rows_leastDepth_12 (by decide) (fun c1 => ?_) (fun c1 => ?_)
      · rw [if_pos c1] at hf
        exact hexit _ hf.symm _ _ _ hP hS (lv_sub hl [0, 1, 2, 3, 4, 5] rfl)
      · rw [if_neg c1] at hf
        refine lv_iload_n hx hb d_Rows_leastDepth_15 rfl (lv_at hl 2 rfl) ?_
        refine lv_iconst (v := (-1)) hx hb d_Rows_leastDepth_16 (by decide) ?_
        refine lv_icmp_eq (tgt := 33) hx hb d_Rows_leastDepth_17 (by decide) (fun c2 => ?_) (fun c2 => ?_)
        · rw [if_pos c2] at hf
          refine lv_iload_n hx hb d_Rows_leastDepth_33 rfl (lv_at hl 3 rfl) ?_
          refine lv_aload_n hx hb d_Rows_leastDepth_34 rfl (lv_at hl 0 rfl) ?_
          refine va_get (D := D) (ci := 4) (v := .ref (ad 2)) (C := R_Rows) (T := T_Rows) (N := 3) hx hb ht i_Rows hown hK hP 4 Xa_4 rfl 1 (by decide) (ht _ mF_Rows_20) (fun _ h9 => h9) rfl d_Rows_leastDepth_35 ?_
          refine lv_iload_n hx hb d_Rows_leastDepth_38 rfl (lv_at hl 1 rfl) ?_
          refine lv_iload hx hb d_Rows_leastDepth_39 (lv_at hl 6 rfl) ?_
          refine va_calli (va_runV (As := [.int a1, .int x7_1]) (rest := [.int a3]) ⟨hx, hb, hml, hown, ht⟩ (c_Board_doorsHolding l D cA ad hI H.size a1 x7_1 S (fun hn => hs (by rw [hn] at hf; exact hf.symm))) (cwV 2 ht (good_G (gV mM_Rows_34 mI_Board_doorsHolding mV_Board_doorsHolding mN_Board mk_Board_doorsHolding)) rfl rfl rfl (by decide +kernel) ⟨Nat.le_of_ble_eq_true rfl, Nat.le_of_ble_eq_true rfl⟩) ⟨fun a U g mk q => ⟨q.1, q.2.1, q.2.2.1, va_K.moved (u := U) (U := U.calling g mk a) (Vm.Alike.refl U.vm) q.2.2.2⟩, va_recv hK hP (ci := 2) (q0 := 2) rfl Xa_2, fun U hU hW => ⟨rfl, by rw [hU], by rw [hU]; exact hP, va_K.moved hW.alike hK⟩⟩ rfl rfl hl.1 rfl (lv_room (Nat.le_of_ble_eq_true rfl)) d_Rows_leastDepth_41 ⟨Nat.le_of_ble_eq_true rfl, Nat.le_of_ble_eq_true rfl⟩) hS (fun q _ h => hAS _ hS.1 q h) (fun q h => hAS _ hS.1 q h) (fun r1 _ t H locs ht9 hvm hw hB hz1 hk1 hS => ?_)
          obtain ⟨hP, hK9⟩ := hB
          rw [ht9] at hP
          rw [hw, Option.bind_some] at hf
          refine lv_iand hx hb d_Rows_leastDepth_44 ?_
          refine lv_istore (lv' := [(8, .int (a3 &&& r1)), (0, .ref (ad 4)), (1, .int a1), (2, .int a2), (3, .int a3), (4, .long a4), (6, .int a6), (7, .int x7_1)]) hx hb d_Rows_leastDepth_45 hl (by decide) rfl (fun ls hl => ?_)
          refine lv_aload_n hx hb d_Rows_leastDepth_47 rfl (lv_at hl 1 rfl) ?_
          refine va_get (D := D) (ci := 4) (v := .ref (ad 2)) (C := R_Rows) (T := T_Rows) (N := 3) hx hb ht i_Rows hown hK hP 4 Xa_4 rfl 1 (by decide) (ht _ mF_Rows_20) (fun _ h9 => h9) rfl d_Rows_leastDepth_48 ?_
          refine lv_lload hx hb d_Rows_leastDepth_51 (lv_at hl 5 rfl) ?_
          refine lv_iload_n hx hb d_Rows_leastDepth_53 rfl (lv_at hl 2 rfl) ?_
          refine lv_iload hx hb d_Rows_leastDepth_54 (lv_at hl 7 rfl) ?_
          refine va_calll (va_runS (As := [.int a1, .int x7_1]) (rest := [.long a4, .ref (ad 2)]) ⟨hx, hb, hml, hown, ht⟩ (c_Board_bit l D cA ad hI H.size a1 x7_1 S (fun hn => hs (by rw [hn] at hf; exact hf.symm))) (va_cwS 2 ht (good_G (gS mM_Rows_64 mS_Board_bit mN_Board mk_Board_bit)) rfl rfl rfl (by decide +kernel) ⟨Nat.le_of_ble_eq_true rfl, Nat.le_of_ble_eq_true rfl⟩) ⟨fun a U g mk q => ⟨q.1, q.2.1, q.2.2.1, va_K.moved (u := U) (U := U.calling g mk a) (Vm.Alike.refl U.vm) q.2.2.2⟩, fun U hU hW => ⟨rfl, by rw [hU], by rw [hU]; exact hP, va_K.moved hW.alike hK⟩⟩ rfl rfl hl.1 rfl (lv_room (Nat.le_of_ble_eq_true rfl)) d_Rows_leastDepth_56 ⟨Nat.le_of_ble_eq_true rfl, Nat.le_of_ble_eq_true rfl⟩) hS (fun q _ h => hAS _ hS.1 q h) (fun q h => hAS _ hS.1 q h) (fun r2 _ t H locs ht9 hvm hw hB hz1 hk1 hS => ?_)
          obtain ⟨hP, hK9⟩ := hB
          rw [ht9] at hP
          rw [hw, Option.bind_some] at hf
          refine lv_lor hx hb d_Rows_leastDepth_59 ?_
          refine lv_iload hx hb d_Rows_leastDepth_60 (lv_at hl 6 rfl) ?_
          refine va_calli (va_runV (As := [.long (a4 ||| r2), .int a6]) (rest := []) ⟨hx, hb, hml, hown, ht⟩ (c_Board_countKeys l D cA ad hI H.size (a4 ||| r2) a6 S (fun hn => hs (by rw [hn] at hf; exact hf.symm))) (cwV 2 ht (good_G (gV mM_Rows_43 mI_Board_countKeys mV_Board_countKeys mN_Board mk_Board_countKeys)) rfl rfl rfl (by decide +kernel) ⟨Nat.le_of_ble_eq_true rfl, Nat.le_of_ble_eq_true rfl⟩) ⟨fun a U g mk q => ⟨q.1, q.2.1, q.2.2.1, va_K.moved (u := U) (U := U.calling g mk a) (Vm.Alike.refl U.vm) q.2.2.2⟩, va_recv hK hP (ci := 2) (q0 := 2) rfl Xa_2, fun U hU hW => ⟨rfl, by rw [hU], by rw [hU]; exact hP, va_K.moved hW.alike hK⟩⟩ rfl rfl hl.1 rfl (lv_room (Nat.le_of_ble_eq_true rfl)) d_Rows_leastDepth_62 ⟨Nat.le_of_ble_eq_true rfl, Nat.le_of_ble_eq_true rfl⟩) hS (fun q _ h => hAS _ hS.1 q h) (fun q h => hAS _ hS.1 q h) (fun r3 _ t H locs ht9 hvm hw hB hz1 hk1 hS => ?_)
          obtain ⟨hP, hK9⟩ := hB
          rw [ht9] at hP
          rw [hw, Option.bind_some] at hf
          refine lv_istore (lv' := [(9, .int r3), (8, .int (a3 &&& r1)), (0, .ref (ad 4)), (1, .int a1), (2, .int a2), (3, .int a3), (4, .long a4), (6, .int a6), (7, .int x7_1)]) hx hb d_Rows_leastDepth_65 hl (by decide) rfl (fun ls hl => ?_)
          refine lv_aload_n hx hb d_Rows_leastDepth_67 rfl (lv_at hl 2 rfl) ?_
          refine va_get (D := D) (ci := 4) (v := .ref (ad 9)) (C := R_Rows) (T := T_Rows) (N := 3) hx hb ht i_Rows hown hK hP 4 Xa_4 rfl 2 (by decide) (ht _ mF_Rows_11) (fun _ h9 => h9) rfl d_Rows_leastDepth_68 ?_
          refine lv_iload_n hx hb d_Rows_leastDepth_71 rfl (lv_at hl 3 rfl) ?_
          by_cases b3 : oob a1 6
          · rw [if_pos b3] at hf; exact absurd hf.symm hs
          rw [if_neg b3] at hf
          refine gz_aald hx hb hK hP 9 2 Xa_9 rfl b3 d_Rows_leastDepth_72 ?_
          rw [X_row b3]
          refine lv_iload hx hb d_Rows_leastDepth_73 (lv_at hl 8 rfl) ?_
          refine lv_iload hx hb d_Rows_leastDepth_75 (lv_at hl 1 rfl) ?_
          refine va_calli (va_runS (As := [.int x7_1, .int (a3 &&& r1)]) (rest := [.ref (ad (27 + a1.toNatClampNeg))]) ⟨hx, hb, hml, hown, ht⟩ (c_Rows_state l D cA ad hI H.size x7_1 (a3 &&& r1) S (fun hn => hs (by rw [hn] at hf; exact hf.symm))) (va_cwS 2 ht (good_G (gS mM_Rows_40 mS_Rows_state mN_Rows mk_Rows_state)) rfl rfl rfl (by decide +kernel) ⟨Nat.le_of_ble_eq_true rfl, Nat.le_of_ble_eq_true rfl⟩) ⟨fun a U g mk q => ⟨q.1, q.2.1, q.2.2.1, va_K.moved (u := U) (U := U.calling g mk a) (Vm.Alike.refl U.vm) q.2.2.2⟩, fun U hU hW => ⟨rfl, by rw [hU], by rw [hU]; exact hP, va_K.moved hW.alike hK⟩⟩ rfl rfl hl.1 rfl (lv_room (Nat.le_of_ble_eq_true rfl)) d_Rows_leastDepth_77 ⟨Nat.le_of_ble_eq_true rfl, Nat.le_of_ble_eq_true rfl⟩) hS (fun q _ h => hAS _ hS.1 q h) (fun q h => hAS _ hS.1 q h) (fun r4 _ t H locs ht9 hvm hw hB hz1 hk1 hS => ?_)
          obtain ⟨hP, hK9⟩ := hB
          rw [ht9] at hP
          rw [hw, Option.bind_some] at hf
          by_cases b4 : oob r4 512
          · rw [if_pos b4] at hf; exact absurd hf.symm hs
          rw [if_neg b4] at hf
          refine va_iald (f := S.1 (27 + a1.toNatClampNeg)) hx hb hK hP (27 + a1.toNatClampNeg) 0 (X_rowat9 b3) rfl b4 d_Rows_leastDepth_80 ?_
          refine lv_iload hx hb d_Rows_leastDepth_81 (lv_at hl 0 rfl) ?_
          refine lv_icmp_le (tgt := 89) hx hb d_Rows_leastDepth_83 (by decide) (fun c5 => ?_) (fun c5 => ?_)
          · rw [if_pos c5] at hf
            refine lv_iinc (v := x7_1 + 1) (lv' := [(7, .int (x7_1 + 1)), (9, .int r3), (8, .int (a3 &&& r1)), (0, .ref (ad 4)), (1, .int a1), (2, .int a2), (3, .int a3), (4, .long a4), (6, .int a6)]) hx hb d_Rows_leastDepth_89 hl (k := 8) rfl rfl (by decide) rfl (fun ls hl => ?_)
            refine lv_goto (tgt := 3) hx hb d_Rows_leastDepth_92 (by decide) ?_
            exact ih (x7_1 + 1) _ _ _ hP hS (lv_sub hl [3, 4, 5, 6, 7, 8, 0] rfl) (fun hn => hs (hf.symm.trans hn)) (fun o ho => hret o (hf.symm.trans ho)) (fun v ho => hexit v (hf.symm.trans ho))
          · rw [if_neg c5] at hf
            refine lv_iload hx hb d_Rows_leastDepth_86 (lv_at hl 8 rfl) ?_
            rw [← hQ]
            exact W.iret (v := x7_1) hx hb hr (fun t ht hW => ⟨⟨x7_1, (), rfl, hret _ hf.symm, by rw [ht]; exact hP, va_K.moved hW.alike hK⟩, hS.F ht⟩) hS.2.2 d_Rows_leastDepth_88
        · rw [if_neg c2] at hf
          refine lv_aload_n hx hb d_Rows_leastDepth_20 rfl (lv_at hl 0 rfl) ?_
          refine va_get (D := D) (ci := 4) (v := .ref (ad 1)) (C := R_Rows) (T := T_Rows) (N := 3) hx hb ht i_Rows hown hK hP 4 Xa_4 rfl 0 (by decide) (ht _ mF_Rows_16) (fun _ h9 => h9) rfl d_Rows_leastDepth_21 ?_
          refine lv_iload_n hx hb d_Rows_leastDepth_24 rfl (lv_at hl 2 rfl) ?_
          refine lv_iload hx hb d_Rows_leastDepth_25 (lv_at hl 6 rfl) ?_
          refine va_calli (va_runV (As := [.int a2, .int x7_1]) (rest := []) ⟨hx, hb, hml, hown, ht⟩ (c_Law_mayFollow l D cA ad hI H.size a2 x7_1 S (fun hn => hs (by rw [hn] at hf; exact hf.symm))) (cwV 2 ht (good_G (gV mM_Rows_68 mI_Law_mayFollow mV_Law_mayFollow mN_Law mk_Law_mayFollow)) rfl rfl rfl (by decide +kernel) ⟨Nat.le_of_ble_eq_true rfl, Nat.le_of_ble_eq_true rfl⟩) ⟨fun a U g mk q => ⟨q.1, q.2.1, q.2.2.1, va_K.moved (u := U) (U := U.calling g mk a) (Vm.Alike.refl U.vm) q.2.2.2⟩, va_recv hK hP (ci := 1) (q0 := 1) rfl Xa_1, fun U hU hW => ⟨rfl, by rw [hU], by rw [hU]; exact hP, va_K.moved hW.alike hK⟩⟩ rfl rfl hl.1 rfl (lv_room (Nat.le_of_ble_eq_true rfl)) d_Rows_leastDepth_27 ⟨Nat.le_of_ble_eq_true rfl, Nat.le_of_ble_eq_true rfl⟩) hS (fun q _ h => hAS _ hS.1 q h) (fun q h => hAS _ hS.1 q h) (fun r5 _ t H locs ht9 hvm hw hB hz1 hk1 hS => ?_)
          obtain ⟨hP, hK9⟩ := hB
          rw [ht9] at hP
          obtain ⟨hw, hz5⟩ := hw
          rw [hw, Option.bind_some] at hf
          refine lv_if_eq (tgt := 89) hx hb d_Rows_leastDepth_30 (by decide) (fun c6 => ?_) (fun c6 => ?_)
          · rw [if_pos c6] at hf
            refine lv_iinc (v := x7_1 + 1) (lv' := [(7, .int (x7_1 + 1)), (0, .ref (ad 4)), (1, .int a1), (2, .int a2), (3, .int a3), (4, .long a4), (6, .int a6)]) hx hb d_Rows_leastDepth_89 hl (k := 6) rfl rfl (by decide) rfl (fun ls hl => ?_)
            refine lv_goto (tgt := 3) hx hb d_Rows_leastDepth_92 (by decide) ?_
            exact ih (x7_1 + 1) _ _ _ hP hS (lv_sub hl [1, 2, 3, 4, 5, 6, 0] rfl) (fun hn => hs (hf.symm.trans hn)) (fun o ho => hret o (hf.symm.trans ho)) (fun v ho => hexit v (hf.symm.trans ho))
          · rw [if_neg c6] at hf
            refine lv_iload_n hx hb d_Rows_leastDepth_33 rfl (lv_at hl 3 rfl) ?_
            refine lv_aload_n hx hb d_Rows_leastDepth_34 rfl (lv_at hl 0 rfl) ?_
            refine va_get (D := D) (ci := 4) (v := .ref (ad 2)) (C := R_Rows) (T := T_Rows) (N := 3) hx hb ht i_Rows hown hK hP 4 Xa_4 rfl 1 (by decide) (ht _ mF_Rows_20) (fun _ h9 => h9) rfl d_Rows_leastDepth_35 ?_
            refine lv_iload_n hx hb d_Rows_leastDepth_38 rfl (lv_at hl 1 rfl) ?_
            refine lv_iload hx hb d_Rows_leastDepth_39 (lv_at hl 6 rfl) ?_
            refine va_calli (va_runV (As := [.int a1, .int x7_1]) (rest := [.int a3]) ⟨hx, hb, hml, hown, ht⟩ (c_Board_doorsHolding l D cA ad hI H.size a1 x7_1 S (fun hn => hs (by rw [hn] at hf; exact hf.symm))) (cwV 2 ht (good_G (gV mM_Rows_34 mI_Board_doorsHolding mV_Board_doorsHolding mN_Board mk_Board_doorsHolding)) rfl rfl rfl (by decide +kernel) ⟨Nat.le_of_ble_eq_true rfl, Nat.le_of_ble_eq_true rfl⟩) ⟨fun a U g mk q => ⟨q.1, q.2.1, q.2.2.1, va_K.moved (u := U) (U := U.calling g mk a) (Vm.Alike.refl U.vm) q.2.2.2⟩, va_recv hK hP (ci := 2) (q0 := 2) rfl Xa_2, fun U hU hW => ⟨rfl, by rw [hU], by rw [hU]; exact hP, va_K.moved hW.alike hK⟩⟩ rfl rfl hl.1 rfl (lv_room (Nat.le_of_ble_eq_true rfl)) d_Rows_leastDepth_41 ⟨Nat.le_of_ble_eq_true rfl, Nat.le_of_ble_eq_true rfl⟩) hS (fun q _ h => hAS _ hS.1 q h) (fun q h => hAS _ hS.1 q h) (fun r6 _ t H locs ht9 hvm hw hB hz1 hk1 hS => ?_)
            obtain ⟨hP, hK9⟩ := hB
            rw [ht9] at hP
            rw [hw, Option.bind_some] at hf
            refine lv_iand hx hb d_Rows_leastDepth_44 ?_
            refine lv_istore (lv' := [(8, .int (a3 &&& r6)), (0, .ref (ad 4)), (1, .int a1), (2, .int a2), (3, .int a3), (4, .long a4), (6, .int a6), (7, .int x7_1)]) hx hb d_Rows_leastDepth_45 hl (by decide) rfl (fun ls hl => ?_)
            refine lv_aload_n hx hb d_Rows_leastDepth_47 rfl (lv_at hl 1 rfl) ?_
            refine va_get (D := D) (ci := 4) (v := .ref (ad 2)) (C := R_Rows) (T := T_Rows) (N := 3) hx hb ht i_Rows hown hK hP 4 Xa_4 rfl 1 (by decide) (ht _ mF_Rows_20) (fun _ h9 => h9) rfl d_Rows_leastDepth_48 ?_
            refine lv_lload hx hb d_Rows_leastDepth_51 (lv_at hl 5 rfl) ?_
            refine lv_iload_n hx hb d_Rows_leastDepth_53 rfl (lv_at hl 2 rfl) ?_
            refine lv_iload hx hb d_Rows_leastDepth_54 (lv_at hl 7 rfl) ?_
            refine va_calll (va_runS (As := [.int a1, .int x7_1]) (rest := [.long a4, .ref (ad 2)]) ⟨hx, hb, hml, hown, ht⟩ (c_Board_bit l D cA ad hI H.size a1 x7_1 S (fun hn => hs (by rw [hn] at hf; exact hf.symm))) (va_cwS 2 ht (good_G (gS mM_Rows_64 mS_Board_bit mN_Board mk_Board_bit)) rfl rfl rfl (by decide +kernel) ⟨Nat.le_of_ble_eq_true rfl, Nat.le_of_ble_eq_true rfl⟩) ⟨fun a U g mk q => ⟨q.1, q.2.1, q.2.2.1, va_K.moved (u := U) (U := U.calling g mk a) (Vm.Alike.refl U.vm) q.2.2.2⟩, fun U hU hW => ⟨rfl, by rw [hU], by rw [hU]; exact hP, va_K.moved hW.alike hK⟩⟩ rfl rfl hl.1 rfl (lv_room (Nat.le_of_ble_eq_true rfl)) d_Rows_leastDepth_56 ⟨Nat.le_of_ble_eq_true rfl, Nat.le_of_ble_eq_true rfl⟩) hS (fun q _ h => hAS _ hS.1 q h) (fun q h => hAS _ hS.1 q h) (fun r7 _ t H locs ht9 hvm hw hB hz1 hk1 hS => ?_)
            obtain ⟨hP, hK9⟩ := hB
            rw [ht9] at hP
            rw [hw, Option.bind_some] at hf
            refine lv_lor hx hb d_Rows_leastDepth_59 ?_
            refine lv_iload hx hb d_Rows_leastDepth_60 (lv_at hl 6 rfl) ?_
            refine va_calli (va_runV (As := [.long (a4 ||| r7), .int a6]) (rest := []) ⟨hx, hb, hml, hown, ht⟩ (c_Board_countKeys l D cA ad hI H.size (a4 ||| r7) a6 S (fun hn => hs (by rw [hn] at hf; exact hf.symm))) (cwV 2 ht (good_G (gV mM_Rows_43 mI_Board_countKeys mV_Board_countKeys mN_Board mk_Board_countKeys)) rfl rfl rfl (by decide +kernel) ⟨Nat.le_of_ble_eq_true rfl, Nat.le_of_ble_eq_true rfl⟩) ⟨fun a U g mk q => ⟨q.1, q.2.1, q.2.2.1, va_K.moved (u := U) (U := U.calling g mk a) (Vm.Alike.refl U.vm) q.2.2.2⟩, va_recv hK hP (ci := 2) (q0 := 2) rfl Xa_2, fun U hU hW => ⟨rfl, by rw [hU], by rw [hU]; exact hP, va_K.moved hW.alike hK⟩⟩ rfl rfl hl.1 rfl (lv_room (Nat.le_of_ble_eq_true rfl)) d_Rows_leastDepth_62 ⟨Nat.le_of_ble_eq_true rfl, Nat.le_of_ble_eq_true rfl⟩) hS (fun q _ h => hAS _ hS.1 q h) (fun q h => hAS _ hS.1 q h) (fun r8 _ t H locs ht9 hvm hw hB hz1 hk1 hS => ?_)
            obtain ⟨hP, hK9⟩ := hB
            rw [ht9] at hP
            rw [hw, Option.bind_some] at hf
            refine lv_istore (lv' := [(9, .int r8), (8, .int (a3 &&& r6)), (0, .ref (ad 4)), (1, .int a1), (2, .int a2), (3, .int a3), (4, .long a4), (6, .int a6), (7, .int x7_1)]) hx hb d_Rows_leastDepth_65 hl (by decide) rfl (fun ls hl => ?_)
            refine lv_aload_n hx hb d_Rows_leastDepth_67 rfl (lv_at hl 2 rfl) ?_
            refine va_get (D := D) (ci := 4) (v := .ref (ad 9)) (C := R_Rows) (T := T_Rows) (N := 3) hx hb ht i_Rows hown hK hP 4 Xa_4 rfl 2 (by decide) (ht _ mF_Rows_11) (fun _ h9 => h9) rfl d_Rows_leastDepth_68 ?_
            refine lv_iload_n hx hb d_Rows_leastDepth_71 rfl (lv_at hl 3 rfl) ?_
            by_cases b7 : oob a1 6
            · rw [if_pos b7] at hf; exact absurd hf.symm hs
            rw [if_neg b7] at hf
            refine gz_aald hx hb hK hP 9 2 Xa_9 rfl b7 d_Rows_leastDepth_72 ?_
            rw [X_row b7]
            refine lv_iload hx hb d_Rows_leastDepth_73 (lv_at hl 8 rfl) ?_
            refine lv_iload hx hb d_Rows_leastDepth_75 (lv_at hl 1 rfl) ?_
            refine va_calli (va_runS (As := [.int x7_1, .int (a3 &&& r6)]) (rest := [.ref (ad (27 + a1.toNatClampNeg))]) ⟨hx, hb, hml, hown, ht⟩ (c_Rows_state l D cA ad hI H.size x7_1 (a3 &&& r6) S (fun hn => hs (by rw [hn] at hf; exact hf.symm))) (va_cwS 2 ht (good_G (gS mM_Rows_40 mS_Rows_state mN_Rows mk_Rows_state)) rfl rfl rfl (by decide +kernel) ⟨Nat.le_of_ble_eq_true rfl, Nat.le_of_ble_eq_true rfl⟩) ⟨fun a U g mk q => ⟨q.1, q.2.1, q.2.2.1, va_K.moved (u := U) (U := U.calling g mk a) (Vm.Alike.refl U.vm) q.2.2.2⟩, fun U hU hW => ⟨rfl, by rw [hU], by rw [hU]; exact hP, va_K.moved hW.alike hK⟩⟩ rfl rfl hl.1 rfl (lv_room (Nat.le_of_ble_eq_true rfl)) d_Rows_leastDepth_77 ⟨Nat.le_of_ble_eq_true rfl, Nat.le_of_ble_eq_true rfl⟩) hS (fun q _ h => hAS _ hS.1 q h) (fun q h => hAS _ hS.1 q h) (fun r9 _ t H locs ht9 hvm hw hB hz1 hk1 hS => ?_)
            obtain ⟨hP, hK9⟩ := hB
            rw [ht9] at hP
            rw [hw, Option.bind_some] at hf
            by_cases b8 : oob r9 512
            · rw [if_pos b8] at hf; exact absurd hf.symm hs
            rw [if_neg b8] at hf
            refine va_iald (f := S.1 (27 + a1.toNatClampNeg)) hx hb hK hP (27 + a1.toNatClampNeg) 0 (X_rowat9 b7) rfl b8 d_Rows_leastDepth_80 ?_
            refine lv_iload hx hb d_Rows_leastDepth_81 (lv_at hl 0 rfl) ?_
            refine lv_icmp_le (tgt := 89) hx hb d_Rows_leastDepth_83 (by decide) (fun c9 => ?_) (fun c9 => ?_)
            · rw [if_pos c9] at hf
              refine lv_iinc (v := x7_1 + 1) (lv' := [(7, .int (x7_1 + 1)), (9, .int r8), (8, .int (a3 &&& r6)), (0, .ref (ad 4)), (1, .int a1), (2, .int a2), (3, .int a3), (4, .long a4), (6, .int a6)]) hx hb d_Rows_leastDepth_89 hl (k := 8) rfl rfl (by decide) rfl (fun ls hl => ?_)
              refine lv_goto (tgt := 3) hx hb d_Rows_leastDepth_92 (by decide) ?_
              exact ih (x7_1 + 1) _ _ _ hP hS (lv_sub hl [3, 4, 5, 6, 7, 8, 0] rfl) (fun hn => hs (hf.symm.trans hn)) (fun o ho => hret o (hf.symm.trans ho)) (fun v ho => hexit v (hf.symm.trans ho))
            · rw [if_neg c9] at hf
              refine lv_iload hx hb d_Rows_leastDepth_86 (lv_at hl 8 rfl) ?_
              rw [← hQ]
              exact W.iret (v := x7_1) hx hb hr (fun t ht hW => ⟨⟨x7_1, (), rfl, hret _ hf.symm, by rw [ht]; exact hP, va_K.moved hW.alike hK⟩, hS.F ht⟩) hS.2.2 d_Rows_leastDepth_88
  refine lp3_1 FU (0 : Int32) _ _ _ hP hS (lv_sub hl [1, 2, 3, 4, 5, 6, 0] rfl) (fun hn => ?_) (fun o ho => ?_) (fun v10 hvv10 H locs ls hP hS hl => ?_)
  · rw [hn] at hf; exact hs hf.symm
  · rw [ho, Option.bind_some, Sum.elim_inl] at hf; exact hf.symm
  · rw [hvv10, Option.bind_some, Sum.elim_inr] at hf
    refine lv_iconst (v := (-1)) hx hb d_Rows_leastDepth_95 (by decide) ?_
    rw [← hQ]
    exact W.iret (v := (-1 : Int32)) hx hb hr (fun t ht hW => ⟨⟨(-1 : Int32), (), rfl, hf.symm, by rw [ht]; exact hP, va_K.moved hW.alike hK⟩, hS.F ht⟩) hS.2.2 d_Rows_leastDepth_96
set_option maxHeartbeats 4000000 in
set_option maxRecDepth 100000 in
theorem c_Rows_cutLeast (l : Launch) (D : va_G) (cA : Nat → ClassId) (ad : Nat → Nat) (hI : InjA ad) (sz : Nat) (a1 : Int32) (S : SS) (hs : f_Rows_cutLeast a1 S ≠ none) : Met l y_Rows_cutLeast w_Rows_cutLeast ({ frames := 5, cells := 0, slots := 0, locals := 122 }) (va_Pc [.ref (ad 4), .int a1] (fun U => U.heap.size = sz ∧ va_P D vwCl (X cA ad S) U.heap ∧ va_K D vwCl (tysX cA) U)) (va_Qi (fun (r : Int32) (u : SS) => f_Rows_cutLeast a1 S = some (r, u) ∧ (r = 0 ∨ r = 1)) (fun (u : SS) t => va_P D vwCl (X cA ad u) t.heap ∧ va_K D vwCl (tysX cA) t) (AS ad sz)) 0 0 (AS ad sz) := by
  refine Met.ofW (cc := b_Rows_cutLeast) (maxL := 9) (ret := (some .boolean)) (by decide) rfl ?_
  intro p e s m args below meth c s₁ B hml hv
  obtain ⟨rfl, hsz, hP, hK⟩ := hv
  have hx := B.exec
  have hb := B.bytes
  have hr := B.returns
  have hts := atoms_spec (ws := w_Rows_cutLeast) B.pre
  have ht := fun w h => hts w (List.mem_cons_of_mem _ h)
  have hown : s.vm.findClass R_Rows = some m.cls := findClass_of_methodNamed B.named
  have hlocks := B.notSynchronized
  subst hsz
  have hAd : ∀ q, q < NP → AS ad s.heap.size (ad q) := fun q h => Or.inl ⟨q, h, rfl⟩
  have hA : ∀ q : Nat, s.heap.size ≤ q → AS ad s.heap.size q := fun q h => Or.inr h
  have hAS : ∀ z : Nat, s.heap.size ≤ z → ∀ q : Nat, AS ad z q → AS ad s.heap.size q := fun z h q hq => hq.elim Or.inl (fun g => Or.inr (Nat.le_trans h g))
  generalize hAe : AS ad s.heap.size = A at hAd hA hAS ⊢
  have hS : va_S A s.heap s.heap [] := va_S.rf
  have hl := lv_entry ([.ref (ad 4), .int a1]) (n := 9) (Nat.le_of_ble_eq_true rfl)
  rw [lg_entry_eq]
  generalize (lg_sl ([.ref (ad 4), .int a1]) ++ List.replicate (9 - (lg_sl ([.ref (ad 4), .int a1])).length) Slot.unset).toArray = ls at hl ⊢
  have hl : lv_has ls 9 [(0, .ref (ad 4)), (1, .int a1)] := hl
  have hf := (f_Rows_cutLeast_s a1 S).symm
  generalize hQ : MQ below _ _ s _ _ _ = Q
  refine lv_aload_n hx hb d_Rows_cutLeast_0 rfl (lv_at hl 0 rfl) ?_
  refine lv_iload_n hx hb d_Rows_cutLeast_1 rfl (lv_at hl 1 rfl) ?_
  refine va_callv (va_runV (As := [.int a1]) (rest := []) ⟨hx, hb, hml, hown, ht⟩ (c_Rows_countWays l D cA ad hI s.heap.size a1 S (fun hn => hs (by rw [hn] at hf; exact hf.symm))) (cwV 1 ht (good_G (gV mM_Rows_24 mI_Rows_countWays mV_Rows_countWays mN_Rows mk_Rows_countWays)) rfl rfl rfl (by decide +kernel) ⟨Nat.le_of_ble_eq_true rfl, Nat.le_of_ble_eq_true rfl⟩) ⟨fun a U g mk q => ⟨q.1, q.2.1, q.2.2.1, va_K.moved (u := U) (U := U.calling g mk a) (Vm.Alike.refl U.vm) q.2.2.2⟩, va_recv hK hP (ci := 4) (q0 := 4) rfl Xa_4, fun U hU hW => ⟨rfl, by rw [hU], by rw [hU]; exact hP, va_K.moved hW.alike hK⟩⟩ rfl rfl hl.1 rfl (lv_room (Nat.le_of_ble_eq_true rfl)) d_Rows_cutLeast_2 ⟨Nat.le_of_ble_eq_true rfl, Nat.le_of_ble_eq_true rfl⟩) hS (fun q _ h => hAS _ hS.1 q h) (fun q h => hAS _ hS.1 q h) (fun u1 t H locs ht9 hvm hw hB hz1 hk1 hS => ?_)
  obtain ⟨hP, hK9⟩ := hB
  rw [ht9] at hP
  rw [hw, Option.bind_some] at hf
  refine lv_aload_n hx hb d_Rows_cutLeast_5 rfl (lv_at hl 0 rfl) ?_
  refine va_get (D := D) (ci := 4) (v := .ref (ad 2)) (C := R_Rows) (T := T_Rows) (N := 3) hx hb ht i_Rows hown hK hP 4 Xa_4 rfl 1 (by decide) (ht _ mF_Rows_20) (fun _ h9 => h9) rfl d_Rows_cutLeast_6 ?_
  refine va_get (D := D) (ci := 2) (v := .ref (ad 6)) (C := R_Board) (T := T_Board) (N := 7) hx hb ht i_Board hown hK hP 2 Xa_2 rfl 4 (by decide) (ht _ mF_Rows_47) (fun _ h9 => h9) rfl d_Rows_cutLeast_9 ?_
  refine lv_aload_n hx hb d_Rows_cutLeast_12 rfl (lv_at hl 0 rfl) ?_
  refine va_get (D := D) (ci := 4) (v := .ref (ad 2)) (C := R_Rows) (T := T_Rows) (N := 3) hx hb ht i_Rows hown hK hP 4 Xa_4 rfl 1 (by decide) (ht _ mF_Rows_20) (fun _ h9 => h9) rfl d_Rows_cutLeast_13 ?_
  refine va_get (D := D) (ci := 2) (v := .int (u1.1 2 1)) (C := R_Board) (T := T_Board) (N := 7) hx hb ht i_Board hown hK hP 2 Xa_2 rfl 1 (by decide) (ht _ mF_Rows_50) (fun _ h9 => h9) rfl d_Rows_cutLeast_16 ?_
  by_cases b1 : oob (u1.1 2 1) 8
  · rw [if_pos b1] at hf; exact absurd hf.symm hs
  rw [if_neg b1] at hf
  refine gz_aald hx hb hK hP 6 2 Xa_6 rfl b1 d_Rows_cutLeast_19 ?_
  rw [X_row b1]
  refine lv_astore_n (lv' := [(2, .ref (ad (10 + (u1.1 2 1).toNatClampNeg))), (0, .ref (ad 4)), (1, .int a1)]) hx hb d_Rows_cutLeast_20 rfl hl (by decide) rfl (fun ls hl => ?_)
  refine lv_aload_n hx hb d_Rows_cutLeast_21 rfl (lv_at hl 1 rfl) ?_
  refine va_get (D := D) (ci := 4) (v := .ref (ad 2)) (C := R_Rows) (T := T_Rows) (N := 3) hx hb ht i_Rows hown hK hP 4 Xa_4 rfl 1 (by decide) (ht _ mF_Rows_20) (fun _ h9 => h9) rfl d_Rows_cutLeast_22 ?_
  refine va_calli (va_runV (As := []) (rest := []) ⟨hx, hb, hml, hown, ht⟩ (c_Board_allDoors l D cA ad hI H.size u1 (fun hn => hs (by rw [hn] at hf; exact hf.symm))) (cwV 0 ht (good_G (gV mM_Rows_53 mI_Board_allDoors mV_Board_allDoors mN_Board mk_Board_allDoors)) rfl rfl rfl (by decide +kernel) ⟨Nat.le_of_ble_eq_true rfl, Nat.le_of_ble_eq_true rfl⟩) ⟨fun a U g mk q => ⟨q.1, q.2.1, q.2.2.1, va_K.moved (u := U) (U := U.calling g mk a) (Vm.Alike.refl U.vm) q.2.2.2⟩, va_recv hK hP (ci := 2) (q0 := 2) rfl Xa_2, fun U hU hW => ⟨rfl, by rw [hU], by rw [hU]; exact hP, va_K.moved hW.alike hK⟩⟩ rfl rfl hl.1 rfl (lv_room (Nat.le_of_ble_eq_true rfl)) d_Rows_cutLeast_25 ⟨Nat.le_of_ble_eq_true rfl, Nat.le_of_ble_eq_true rfl⟩) hS (fun q _ h => hAS _ hS.1 q h) (fun q h => hAS _ hS.1 q h) (fun r2 _ t H locs ht9 hvm hw hB hz1 hk1 hS => ?_)
  obtain ⟨hP, hK9⟩ := hB
  rw [ht9] at hP
  rw [hw, Option.bind_some] at hf
  refine lv_istore_n (lv' := [(3, .int r2), (2, .ref (ad (10 + (u1.1 2 1).toNatClampNeg))), (0, .ref (ad 4)), (1, .int a1)]) hx hb d_Rows_cutLeast_28 rfl hl (by decide) rfl (fun ls hl => ?_)
  refine lv_lconst (v := 0) hx hb d_Rows_cutLeast_29 (by decide) ?_
  refine lv_lstore (lv' := [(4, .long (0 : Int64)), (3, .int r2), (2, .ref (ad (10 + (u1.1 2 1).toNatClampNeg))), (0, .ref (ad 4)), (1, .int a1)]) hx hb d_Rows_cutLeast_30 hl (by decide) rfl (fun ls hl => ?_)
  refine lv_iconst (v := 0) hx hb d_Rows_cutLeast_32 (by decide) ?_
  refine lv_istore (lv' := [(6, .int (0 : Int32)), (4, .long (0 : Int64)), (3, .int r2), (2, .ref (ad (10 + (u1.1 2 1).toNatClampNeg))), (0, .ref (ad 4)), (1, .int a1)]) hx hb d_Rows_cutLeast_33 hl (by decide) rfl (fun ls hl => ?_)
  have lp35_1 : ∀ (n : Nat) (x3_1 : Int32) (y4_1 : Int64) (x6_1 : Int32) (Sx : SS) (H : Heap) (locs : List Loc) (ls : Array Slot), va_P D vwCl (X cA ad Sx) H → va_S A s.heap H locs → lv_has ls 9 [(0, .ref (ad 4)), (1, .int a1), (2, .ref (ad (10 + (u1.1 2 1).toNatClampNeg))), (3, .int x3_1), (4, .long y4_1), (6, .int x6_1)] → f_Rows_cutLeast_L35 a1 (10 + (u1.1 2 1).toNatClampNeg) n x3_1 y4_1 x6_1 Sx ≠ none →
      (∀ o : Int32 × SS, f_Rows_cutLeast_L35 a1 (10 + (u1.1 2 1).toNatClampNeg) n x3_1 y4_1 x6_1 Sx = some (.inl o) → f_Rows_cutLeast a1 S = some o) →
      (∀ v : SS, f_Rows_cutLeast_L35 a1 (10 + (u1.1 2 1).toNatClampNeg) n x3_1 y4_1 x6_1 Sx = some (.inr v) → ∀ (H : Heap) (locs : List Loc) (ls : Array Slot), va_P D vwCl (X cA ad v) H → va_S A s.heap H locs → lv_has ls 9 [(0, .ref (ad 4)), (1, .int a1), (2, .ref (ad (10 + (u1.1 2 1).toNatClampNeg)))] → W p l e (headSpec w_Rows_cutLeast ({ frames := 5, cells := 0, slots := 0, locals := 122 })).room s m ([.ref (ad 4), .int a1] : List Value).toArray below meth c H locs 0 0 Q (F0 m 124 ls [])) →
      W p l e (headSpec w_Rows_cutLeast ({ frames := 5, cells := 0, slots := 0, locals := 122 })).room s m ([.ref (ad 4), .int a1] : List Value).toArray below meth c H locs 0 0 Q (F0 m 35 ls []) := by
    intro n
    induction n with
    | zero => intro x3_1 y4_1 x6_1 Sx H locs ls hP hS hl hs; exact absurd rfl hs
    | succ n ih =>
      intro x3_1 y4_1 x6_1 Sx H locs ls hP hS hl hs hret hexit
      have hf := (f_Rows_cutLeast_L35_s a1 (10 + (u1.1 2 1).toNatClampNeg) n x3_1 y4_1 x6_1 Sx).symm
      refine lv_iload hx hb d_Rows_cutLeast_35 (lv_at hl 5 rfl) ?_
      refine lv_aload_n hx hb d_Rows_cutLeast_37 rfl (lv_at hl 0 rfl) ?_
      refine va_get (D := D) (ci := 4) (v := .ref (ad 1)) (C := R_Rows) (T := T_Rows) (N := 3) hx hb ht i_Rows hown hK hP 4 Xa_4 rfl 0 (by decide) (ht _ mF_Rows_16) (fun _ h9 => h9) rfl d_Rows_cutLeast_38 ?_
      refine va_get (D := D) (ci := 1) (v := .int (Sx.1 1 0)) (C := R_Law) (T := T_Law) (N := 5) hx hb ht i_Law hown hK hP 1 Xa_1 rfl 0 (by decide) (ht _ mF_Rows_57) (fun _ h9 => h9) rfl d_Rows_cutLeast_41 ?_
      refine lv_icmp_ge (tgt := 124) hx hb d_Rows_cutLeast_44 (by decide) (fun c2 => ?_) (fun c2 => ?_)
      · rw [if_pos c2] at hf
        exact hexit _ hf.symm _ _ _ hP hS (lv_sub hl [0, 1, 2] rfl)
      · rw [if_neg c2] at hf
        refine lv_iload hx hb d_Rows_cutLeast_47 (lv_at hl 5 rfl) ?_
        refine lv_if_le (tgt := 61) hx hb d_Rows_cutLeast_49 (by decide) (fun c3 => ?_) (fun c3 => ?_)
        · rw [if_pos c3] at hf
          refine lv_iconst (v := (-1)) hx hb d_Rows_cutLeast_61 (by decide) ?_
          refine lv_istore (lv' := [(7, .int (-1 : Int32)), (0, .ref (ad 4)), (1, .int a1), (2, .ref (ad (10 + (u1.1 2 1).toNatClampNeg))), (3, .int x3_1), (4, .long y4_1), (6, .int x6_1)]) hx hb d_Rows_cutLeast_62 hl (by decide) rfl (fun ls hl => ?_)
          refine lv_aload_n hx hb d_Rows_cutLeast_64 rfl (lv_at hl 1 rfl) ?_
          refine lv_iload hx hb d_Rows_cutLeast_65 (lv_at hl 6 rfl) ?_
          refine lv_iload hx hb d_Rows_cutLeast_67 (lv_at hl 0 rfl) ?_
          refine lv_iload_n hx hb d_Rows_cutLeast_69 rfl (lv_at hl 4 rfl) ?_
          refine lv_lload hx hb d_Rows_cutLeast_70 (lv_at hl 5 rfl) ?_
          refine lv_iload_n hx hb d_Rows_cutLeast_72 rfl (lv_at hl 2 rfl) ?_
          refine va_calli (va_runV (As := [.int x6_1, .int (-1 : Int32), .int x3_1, .long y4_1, .int a1]) (rest := []) ⟨hx, hb, hml, hown, ht⟩ (c_Rows_leastDepth l D cA ad hI H.size x6_1 (-1 : Int32) x3_1 y4_1 a1 Sx (fun hn => hs (by rw [hn] at hf; exact hf.symm))) (cwV 5 ht (good_G (gV mM_Rows_60 mI_Rows_leastDepth mV_Rows_leastDepth mN_Rows mk_Rows_leastDepth)) rfl rfl rfl (by decide +kernel) ⟨Nat.le_of_ble_eq_true rfl, Nat.le_of_ble_eq_true rfl⟩) ⟨fun a U g mk q => ⟨q.1, q.2.1, q.2.2.1, va_K.moved (u := U) (U := U.calling g mk a) (Vm.Alike.refl U.vm) q.2.2.2⟩, va_recv hK hP (ci := 4) (q0 := 4) rfl Xa_4, fun U hU hW => ⟨rfl, by rw [hU], by rw [hU]; exact hP, va_K.moved hW.alike hK⟩⟩ rfl rfl hl.1 rfl (lv_room (Nat.le_of_ble_eq_true rfl)) d_Rows_cutLeast_73 ⟨Nat.le_of_ble_eq_true rfl, Nat.le_of_ble_eq_true rfl⟩) hS (fun q _ h => hAS _ hS.1 q h) (fun q h => hAS _ hS.1 q h) (fun r3 _ t H locs ht9 hvm hw hB hz1 hk1 hS => ?_)
          obtain ⟨hP, hK9⟩ := hB
          rw [ht9] at hP
          rw [hw, Option.bind_some] at hf
          refine lv_istore (lv' := [(8, .int r3), (7, .int (-1 : Int32)), (0, .ref (ad 4)), (1, .int a1), (2, .ref (ad (10 + (u1.1 2 1).toNatClampNeg))), (3, .int x3_1), (4, .long y4_1), (6, .int x6_1)]) hx hb d_Rows_cutLeast_76 hl (by decide) rfl (fun ls hl => ?_)
          refine lv_iload hx hb d_Rows_cutLeast_78 (lv_at hl 0 rfl) ?_
          refine lv_iconst (v := (-1)) hx hb d_Rows_cutLeast_80 (by decide) ?_
          refine lv_icmp_ne (tgt := 86) hx hb d_Rows_cutLeast_81 (by decide) (fun c4 => ?_) (fun c4 => ?_)
          · rw [if_neg c4] at hf
            refine lv_aload_n hx hb d_Rows_cutLeast_86 rfl (lv_at hl 4 rfl) ?_
            refine lv_iload hx hb d_Rows_cutLeast_87 (lv_at hl 7 rfl) ?_
            refine lv_iload hx hb d_Rows_cutLeast_89 (lv_at hl 0 rfl) ?_
            by_cases b5 : oob x6_1 6
            · rw [if_pos b5] at hf; exact absurd hf.symm hs
            rw [if_neg b5] at hf
            refine va_iast hx hb hK hP (X_D hI hAd) hS (10 + (u1.1 2 1).toNatClampNeg) 0 (X_rowat6 b1) rfl b5 d_Rows_cutLeast_91 (fun H locs hP _ hS => ?_)
            replace hP := X_stI (X_rowlt6 b1) (X_rowcell6 b1) hP
            refine lv_iload_n hx hb d_Rows_cutLeast_92 rfl (lv_at hl 5 rfl) ?_
            refine lv_aload_n hx hb d_Rows_cutLeast_93 rfl (lv_at hl 2 rfl) ?_
            refine va_get (D := D) (ci := 4) (v := .ref (ad 2)) (C := R_Rows) (T := T_Rows) (N := 3) hx hb ht i_Rows hown hK hP 4 Xa_4 rfl 1 (by decide) (ht _ mF_Rows_20) (fun _ h9 => h9) rfl d_Rows_cutLeast_94 ?_
            refine lv_iload hx hb d_Rows_cutLeast_97 (lv_at hl 7 rfl) ?_
            refine lv_iload hx hb d_Rows_cutLeast_99 (lv_at hl 0 rfl) ?_
            refine va_calli (va_runV (As := [.int x6_1, .int r3]) (rest := [.int x3_1]) ⟨hx, hb, hml, hown, ht⟩ (c_Board_doorsHolding l D cA ad hI H.size x6_1 r3 (wI Sx (10 + (u1.1 2 1).toNatClampNeg) x6_1.toNatClampNeg r3) (fun hn => hs (by rw [hn] at hf; exact hf.symm))) (cwV 2 ht (good_G (gV mM_Rows_34 mI_Board_doorsHolding mV_Board_doorsHolding mN_Board mk_Board_doorsHolding)) rfl rfl rfl (by decide +kernel) ⟨Nat.le_of_ble_eq_true rfl, Nat.le_of_ble_eq_true rfl⟩) ⟨fun a U g mk q => ⟨q.1, q.2.1, q.2.2.1, va_K.moved (u := U) (U := U.calling g mk a) (Vm.Alike.refl U.vm) q.2.2.2⟩, va_recv hK hP (ci := 2) (q0 := 2) rfl Xa_2, fun U hU hW => ⟨rfl, by rw [hU], by rw [hU]; exact hP, va_K.moved hW.alike hK⟩⟩ rfl rfl hl.1 rfl (lv_room (Nat.le_of_ble_eq_true rfl)) d_Rows_cutLeast_101 ⟨Nat.le_of_ble_eq_true rfl, Nat.le_of_ble_eq_true rfl⟩) hS (fun q _ h => hAS _ hS.1 q h) (fun q h => hAS _ hS.1 q h) (fun r4 _ t H locs ht9 hvm hw hB hz1 hk1 hS => ?_)
            obtain ⟨hP, hK9⟩ := hB
            rw [ht9] at hP
            rw [hw, Option.bind_some] at hf
            refine lv_iand hx hb d_Rows_cutLeast_104 ?_
            refine lv_istore_n (lv' := [(3, .int (x3_1 &&& r4)), (8, .int r3), (7, .int (-1 : Int32)), (0, .ref (ad 4)), (1, .int a1), (2, .ref (ad (10 + (u1.1 2 1).toNatClampNeg))), (4, .long y4_1), (6, .int x6_1)]) hx hb d_Rows_cutLeast_105 rfl hl (by decide) rfl (fun ls hl => ?_)
            refine lv_lload hx hb d_Rows_cutLeast_106 (lv_at hl 6 rfl) ?_
            refine lv_iload hx hb d_Rows_cutLeast_108 (lv_at hl 7 rfl) ?_
            refine lv_iload hx hb d_Rows_cutLeast_110 (lv_at hl 1 rfl) ?_
            refine va_calll (va_runS (As := [.int x6_1, .int r3]) (rest := [.long y4_1]) ⟨hx, hb, hml, hown, ht⟩ (c_Board_bit l D cA ad hI H.size x6_1 r3 (wI Sx (10 + (u1.1 2 1).toNatClampNeg) x6_1.toNatClampNeg r3) (fun hn => hs (by rw [hn] at hf; exact hf.symm))) (va_cwS 2 ht (good_G (gS mM_Rows_64 mS_Board_bit mN_Board mk_Board_bit)) rfl rfl rfl (by decide +kernel) ⟨Nat.le_of_ble_eq_true rfl, Nat.le_of_ble_eq_true rfl⟩) ⟨fun a U g mk q => ⟨q.1, q.2.1, q.2.2.1, va_K.moved (u := U) (U := U.calling g mk a) (Vm.Alike.refl U.vm) q.2.2.2⟩, fun U hU hW => ⟨rfl, by rw [hU], by rw [hU]; exact hP, va_K.moved hW.alike hK⟩⟩ rfl rfl hl.1 rfl (lv_room (Nat.le_of_ble_eq_true rfl)) d_Rows_cutLeast_112 ⟨Nat.le_of_ble_eq_true rfl, Nat.le_of_ble_eq_true rfl⟩) hS (fun q _ h => hAS _ hS.1 q h) (fun q h => hAS _ hS.1 q h) (fun r5 _ t H locs ht9 hvm hw hB hz1 hk1 hS => ?_)
            obtain ⟨hP, hK9⟩ := hB
            rw [ht9] at hP
            rw [hw, Option.bind_some] at hf
            refine lv_lor hx hb d_Rows_cutLeast_115 ?_
            refine lv_lstore (lv' := [(4, .long (y4_1 ||| r5)), (3, .int (x3_1 &&& r4)), (8, .int r3), (7, .int (-1 : Int32)), (0, .ref (ad 4)), (1, .int a1), (2, .ref (ad (10 + (u1.1 2 1).toNatClampNeg))), (6, .int x6_1)]) hx hb d_Rows_cutLeast_116 hl (by decide) rfl (fun ls hl => ?_)
            refine lv_iinc (v := x6_1 + 1) (lv' := [(6, .int (x6_1 + 1)), (4, .long (y4_1 ||| r5)), (3, .int (x3_1 &&& r4)), (8, .int r3), (7, .int (-1 : Int32)), (0, .ref (ad 4)), (1, .int a1), (2, .ref (ad (10 + (u1.1 2 1).toNatClampNeg)))]) hx hb d_Rows_cutLeast_118 hl (k := 7) rfl rfl (by decide) rfl (fun ls hl => ?_)
            refine lv_goto (tgt := 35) hx hb d_Rows_cutLeast_121 (by decide) ?_
            exact ih (x3_1 &&& r4) (y4_1 ||| r5) (x6_1 + 1) (wI Sx (10 + (u1.1 2 1).toNatClampNeg) x6_1.toNatClampNeg r3) _ _ _ hP hS (lv_sub hl [5, 6, 7, 2, 1, 0] rfl) (fun hn => hs (hf.symm.trans hn)) (fun o ho => hret o (hf.symm.trans ho)) (fun v ho => hexit v (hf.symm.trans ho))
          · rw [if_pos c4] at hf
            refine lv_iconst (v := 0) hx hb d_Rows_cutLeast_84 (by decide) ?_
            rw [← hQ]
            have hz : (0 : Int32) = 0 ∨ (0 : Int32) = 1 := Or.inl rfl
            exact W.zret (v := (0 : Int32)) hx hb hr (zb_n hz) (fun t ht hW => ⟨⟨(0 : Int32), Sx, rfl, ⟨hret _ hf.symm, hz⟩, by rw [ht]; exact hP, va_K.moved hW.alike hK⟩, hS.F ht⟩) hS.2.2 d_Rows_cutLeast_85
        · rw [if_neg c3] at hf
          refine lv_aload_n hx hb d_Rows_cutLeast_52 rfl (lv_at hl 2 rfl) ?_
          refine lv_iload hx hb d_Rows_cutLeast_53 (lv_at hl 5 rfl) ?_
          refine lv_iconst (v := 1) hx hb d_Rows_cutLeast_55 (by decide) ?_
          refine lv_isub hx hb d_Rows_cutLeast_56 ?_
          by_cases b6 : oob (x6_1 - (1 : Int32)) 6
          · rw [if_pos b6] at hf; exact absurd hf.symm hs
          rw [if_neg b6] at hf
          refine va_iald (f := Sx.1 (10 + (u1.1 2 1).toNatClampNeg)) hx hb hK hP (10 + (u1.1 2 1).toNatClampNeg) 0 (X_rowat6 b1) rfl b6 d_Rows_cutLeast_57 ?_
          refine lv_goto (tgt := 62) hx hb d_Rows_cutLeast_58 (by decide) ?_
          refine lv_istore (lv' := [(7, .int (Sx.1 (10 + (u1.1 2 1).toNatClampNeg) (x6_1 - (1 : Int32)).toNatClampNeg)), (0, .ref (ad 4)), (1, .int a1), (2, .ref (ad (10 + (u1.1 2 1).toNatClampNeg))), (3, .int x3_1), (4, .long y4_1), (6, .int x6_1)]) hx hb d_Rows_cutLeast_62 hl (by decide) rfl (fun ls hl => ?_)
          refine lv_aload_n hx hb d_Rows_cutLeast_64 rfl (lv_at hl 1 rfl) ?_
          refine lv_iload hx hb d_Rows_cutLeast_65 (lv_at hl 6 rfl) ?_
          refine lv_iload hx hb d_Rows_cutLeast_67 (lv_at hl 0 rfl) ?_
          refine lv_iload_n hx hb d_Rows_cutLeast_69 rfl (lv_at hl 4 rfl) ?_
          refine lv_lload hx hb d_Rows_cutLeast_70 (lv_at hl 5 rfl) ?_
          refine lv_iload_n hx hb d_Rows_cutLeast_72 rfl (lv_at hl 2 rfl) ?_
          refine va_calli (va_runV (As := [.int x6_1, .int (Sx.1 (10 + (u1.1 2 1).toNatClampNeg) (x6_1 - (1 : Int32)).toNatClampNeg), .int x3_1, .long y4_1, .int a1]) (rest := []) ⟨hx, hb, hml, hown, ht⟩ (c_Rows_leastDepth l D cA ad hI H.size x6_1 (Sx.1 (10 + (u1.1 2 1).toNatClampNeg) (x6_1 - (1 : Int32)).toNatClampNeg) x3_1 y4_1 a1 Sx (fun hn => hs (by rw [hn] at hf; exact hf.symm))) (cwV 5 ht (good_G (gV mM_Rows_60 mI_Rows_leastDepth mV_Rows_leastDepth mN_Rows mk_Rows_leastDepth)) rfl rfl rfl (by decide +kernel) ⟨Nat.le_of_ble_eq_true rfl, Nat.le_of_ble_eq_true rfl⟩) ⟨fun a U g mk q => ⟨q.1, q.2.1, q.2.2.1, va_K.moved (u := U) (U := U.calling g mk a) (Vm.Alike.refl U.vm) q.2.2.2⟩, va_recv hK hP (ci := 4) (q0 := 4) rfl Xa_4, fun U hU hW => ⟨rfl, by rw [hU], by rw [hU]; exact hP, va_K.moved hW.alike hK⟩⟩ rfl rfl hl.1 rfl (lv_room (Nat.le_of_ble_eq_true rfl)) d_Rows_cutLeast_73 ⟨Nat.le_of_ble_eq_true rfl, Nat.le_of_ble_eq_true rfl⟩) hS (fun q _ h => hAS _ hS.1 q h) (fun q h => hAS _ hS.1 q h) (fun r6 _ t H locs ht9 hvm hw hB hz1 hk1 hS => ?_)
          obtain ⟨hP, hK9⟩ := hB
          rw [ht9] at hP
          rw [hw, Option.bind_some] at hf
          refine lv_istore (lv' := [(8, .int r6), (7, .int (Sx.1 (10 + (u1.1 2 1).toNatClampNeg) (x6_1 - (1 : Int32)).toNatClampNeg)), (0, .ref (ad 4)), (1, .int a1), (2, .ref (ad (10 + (u1.1 2 1).toNatClampNeg))), (3, .int x3_1), (4, .long y4_1), (6, .int x6_1)]) hx hb d_Rows_cutLeast_76 hl (by decide) rfl (fun ls hl => ?_)
          refine lv_iload hx hb d_Rows_cutLeast_78 (lv_at hl 0 rfl) ?_
          refine lv_iconst (v := (-1)) hx hb d_Rows_cutLeast_80 (by decide) ?_
          refine lv_icmp_ne (tgt := 86) hx hb d_Rows_cutLeast_81 (by decide) (fun c7 => ?_) (fun c7 => ?_)
          · rw [if_neg c7] at hf
            refine lv_aload_n hx hb d_Rows_cutLeast_86 rfl (lv_at hl 4 rfl) ?_
            refine lv_iload hx hb d_Rows_cutLeast_87 (lv_at hl 7 rfl) ?_
            refine lv_iload hx hb d_Rows_cutLeast_89 (lv_at hl 0 rfl) ?_
            by_cases b8 : oob x6_1 6
            · rw [if_pos b8] at hf; exact absurd hf.symm hs
            rw [if_neg b8] at hf
            refine va_iast hx hb hK hP (X_D hI hAd) hS (10 + (u1.1 2 1).toNatClampNeg) 0 (X_rowat6 b1) rfl b8 d_Rows_cutLeast_91 (fun H locs hP _ hS => ?_)
            replace hP := X_stI (X_rowlt6 b1) (X_rowcell6 b1) hP
            refine lv_iload_n hx hb d_Rows_cutLeast_92 rfl (lv_at hl 5 rfl) ?_
            refine lv_aload_n hx hb d_Rows_cutLeast_93 rfl (lv_at hl 2 rfl) ?_
            refine va_get (D := D) (ci := 4) (v := .ref (ad 2)) (C := R_Rows) (T := T_Rows) (N := 3) hx hb ht i_Rows hown hK hP 4 Xa_4 rfl 1 (by decide) (ht _ mF_Rows_20) (fun _ h9 => h9) rfl d_Rows_cutLeast_94 ?_
            refine lv_iload hx hb d_Rows_cutLeast_97 (lv_at hl 7 rfl) ?_
            refine lv_iload hx hb d_Rows_cutLeast_99 (lv_at hl 0 rfl) ?_
            refine va_calli (va_runV (As := [.int x6_1, .int r6]) (rest := [.int x3_1]) ⟨hx, hb, hml, hown, ht⟩ (c_Board_doorsHolding l D cA ad hI H.size x6_1 r6 (wI Sx (10 + (u1.1 2 1).toNatClampNeg) x6_1.toNatClampNeg r6) (fun hn => hs (by rw [hn] at hf; exact hf.symm))) (cwV 2 ht (good_G (gV mM_Rows_34 mI_Board_doorsHolding mV_Board_doorsHolding mN_Board mk_Board_doorsHolding)) rfl rfl rfl (by decide +kernel) ⟨Nat.le_of_ble_eq_true rfl, Nat.le_of_ble_eq_true rfl⟩) ⟨fun a U g mk q => ⟨q.1, q.2.1, q.2.2.1, va_K.moved (u := U) (U := U.calling g mk a) (Vm.Alike.refl U.vm) q.2.2.2⟩, va_recv hK hP (ci := 2) (q0 := 2) rfl Xa_2, fun U hU hW => ⟨rfl, by rw [hU], by rw [hU]; exact hP, va_K.moved hW.alike hK⟩⟩ rfl rfl hl.1 rfl (lv_room (Nat.le_of_ble_eq_true rfl)) d_Rows_cutLeast_101 ⟨Nat.le_of_ble_eq_true rfl, Nat.le_of_ble_eq_true rfl⟩) hS (fun q _ h => hAS _ hS.1 q h) (fun q h => hAS _ hS.1 q h) (fun r7 _ t H locs ht9 hvm hw hB hz1 hk1 hS => ?_)
            obtain ⟨hP, hK9⟩ := hB
            rw [ht9] at hP
            rw [hw, Option.bind_some] at hf
            refine lv_iand hx hb d_Rows_cutLeast_104 ?_
            refine lv_istore_n (lv' := [(3, .int (x3_1 &&& r7)), (8, .int r6), (7, .int (Sx.1 (10 + (u1.1 2 1).toNatClampNeg) (x6_1 - (1 : Int32)).toNatClampNeg)), (0, .ref (ad 4)), (1, .int a1), (2, .ref (ad (10 + (u1.1 2 1).toNatClampNeg))), (4, .long y4_1), (6, .int x6_1)]) hx hb d_Rows_cutLeast_105 rfl hl (by decide) rfl (fun ls hl => ?_)
            refine lv_lload hx hb d_Rows_cutLeast_106 (lv_at hl 6 rfl) ?_
            refine lv_iload hx hb d_Rows_cutLeast_108 (lv_at hl 7 rfl) ?_
            refine lv_iload hx hb d_Rows_cutLeast_110 (lv_at hl 1 rfl) ?_
            refine va_calll (va_runS (As := [.int x6_1, .int r6]) (rest := [.long y4_1]) ⟨hx, hb, hml, hown, ht⟩ (c_Board_bit l D cA ad hI H.size x6_1 r6 (wI Sx (10 + (u1.1 2 1).toNatClampNeg) x6_1.toNatClampNeg r6) (fun hn => hs (by rw [hn] at hf; exact hf.symm))) (va_cwS 2 ht (good_G (gS mM_Rows_64 mS_Board_bit mN_Board mk_Board_bit)) rfl rfl rfl (by decide +kernel) ⟨Nat.le_of_ble_eq_true rfl, Nat.le_of_ble_eq_true rfl⟩) ⟨fun a U g mk q => ⟨q.1, q.2.1, q.2.2.1, va_K.moved (u := U) (U := U.calling g mk a) (Vm.Alike.refl U.vm) q.2.2.2⟩, fun U hU hW => ⟨rfl, by rw [hU], by rw [hU]; exact hP, va_K.moved hW.alike hK⟩⟩ rfl rfl hl.1 rfl (lv_room (Nat.le_of_ble_eq_true rfl)) d_Rows_cutLeast_112 ⟨Nat.le_of_ble_eq_true rfl, Nat.le_of_ble_eq_true rfl⟩) hS (fun q _ h => hAS _ hS.1 q h) (fun q h => hAS _ hS.1 q h) (fun r8 _ t H locs ht9 hvm hw hB hz1 hk1 hS => ?_)
            obtain ⟨hP, hK9⟩ := hB
            rw [ht9] at hP
            rw [hw, Option.bind_some] at hf
            refine lv_lor hx hb d_Rows_cutLeast_115 ?_
            refine lv_lstore (lv' := [(4, .long (y4_1 ||| r8)), (3, .int (x3_1 &&& r7)), (8, .int r6), (7, .int (Sx.1 (10 + (u1.1 2 1).toNatClampNeg) (x6_1 - (1 : Int32)).toNatClampNeg)), (0, .ref (ad 4)), (1, .int a1), (2, .ref (ad (10 + (u1.1 2 1).toNatClampNeg))), (6, .int x6_1)]) hx hb d_Rows_cutLeast_116 hl (by decide) rfl (fun ls hl => ?_)
            refine lv_iinc (v := x6_1 + 1) (lv' := [(6, .int (x6_1 + 1)), (4, .long (y4_1 ||| r8)), (3, .int (x3_1 &&& r7)), (8, .int r6), (7, .int (Sx.1 (10 + (u1.1 2 1).toNatClampNeg) (x6_1 - (1 : Int32)).toNatClampNeg)), (0, .ref (ad 4)), (1, .int a1), (2, .ref (ad (10 + (u1.1 2 1).toNatClampNeg)))]) hx hb d_Rows_cutLeast_118 hl (k := 7) rfl rfl (by decide) rfl (fun ls hl => ?_)
            refine lv_goto (tgt := 35) hx hb d_Rows_cutLeast_121 (by decide) ?_
            exact ih (x3_1 &&& r7) (y4_1 ||| r8) (x6_1 + 1) (wI Sx (10 + (u1.1 2 1).toNatClampNeg) x6_1.toNatClampNeg r6) _ _ _ hP hS (lv_sub hl [5, 6, 7, 2, 1, 0] rfl) (fun hn => hs (hf.symm.trans hn)) (fun o ho => hret o (hf.symm.trans ho)) (fun v ho => hexit v (hf.symm.trans ho))
          · rw [if_pos c7] at hf
            refine lv_iconst (v := 0) hx hb d_Rows_cutLeast_84 (by decide) ?_
            rw [← hQ]
            have hz : (0 : Int32) = 0 ∨ (0 : Int32) = 1 := Or.inl rfl
            exact W.zret (v := (0 : Int32)) hx hb hr (zb_n hz) (fun t ht hW => ⟨⟨(0 : Int32), Sx, rfl, ⟨hret _ hf.symm, hz⟩, by rw [ht]; exact hP, va_K.moved hW.alike hK⟩, hS.F ht⟩) hS.2.2 d_Rows_cutLeast_85
  refine lp35_1 FU r2 (0 : Int64) (0 : Int32) u1 _ _ _ hP hS (lv_sub hl [4, 5, 3, 2, 1, 0] rfl) (fun hn => ?_) (fun o ho => ?_) (fun v9 hvv9 H locs ls hP hS hl => ?_)
  · rw [hn] at hf; exact hs hf.symm
  · rw [ho, Option.bind_some, Sum.elim_inl] at hf; exact hf.symm
  · rw [hvv9, Option.bind_some, Sum.elim_inr] at hf
    refine lv_iconst (v := 1) hx hb d_Rows_cutLeast_124 (by decide) ?_
    rw [← hQ]
    have hz : (1 : Int32) = 0 ∨ (1 : Int32) = 1 := Or.inr rfl
    exact W.zret (v := (1 : Int32)) hx hb hr (zb_n hz) (fun t ht hW => ⟨⟨(1 : Int32), v9, rfl, ⟨hf.symm, hz⟩, by rw [ht]; exact hP, va_K.moved hW.alike hK⟩, hS.F ht⟩) hS.2.2 d_Rows_cutLeast_125
end
