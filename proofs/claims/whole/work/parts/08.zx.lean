def strX : List (String × Nat × String) := [("MasterKeys", 58, "there are 8 keys"), ("MasterKeys", 70, "there are 6 doors"), ("MasterKeys", 162, "there is no such key"), ("MasterKeys", 164, "there is no such door"), ("MasterKeys", 89, "STEP is 0 .. 7"), ("MasterKeys", 174, "there is no such depth"), ("MasterKeys", 104, "TOP is 1 .. 8"), ("MasterKeys", 110, "tries are 0 .. 200000"), ("MasterKeys", 112, "there are no keys"), ("MasterKeys", 169, "there is no such pin"), ("MasterKeys", 176, "no plan is found"), ("MasterKeys", 153, "there are no such doors")]
def exSup : List String := ["java/lang/RuntimeException", "java/lang/Exception"]
def isCD (w : Cond) : Bool := match w with
  | .castable .. => true
  | .declares .. => true
  | _ => false
theorem warmCD {w : Cond} (h : isCD w = true) {s U : State} (hW : s.WarmedH U.vm) (hz : va_Nw w s) : va_Nw w U := by
  cases w <;> first | exact va_Nw.warmC hW hz | exact va_Nw.warmD hW hz | (simp [isCD] at h; done)
theorem sameCD {w : Cond} (h : isCD w = true) {s U : State} (hv : s.vm = U.vm) (hz : va_Nw w s) : va_Nw w U := by
  cases w <;> first | exact va_Nw.same rfl hv hz | (simp [isCD] at h; done)
theorem useCD {w : Cond} (h : isCD w = true) {A : Array Value} {U : State} (hz : va_Nw w U) : w.before A U = true := by
  cases w <;> first | exact va_Nw.use rfl hz | (simp [isCD] at h; done)
/-- what a throw needs of the start -/
def ZX (A : Nat → Prop) (U : State) : Prop := vx_Zq Bundle.tN "UNASSIGNED_STACK" Bundle.steD A U U.heap ∧ vx_Zq Bundle.tN "SUPPRESSED_SENTINEL" Bundle.listD A U U.heap ∧ (∀ q ∈ strX, ∃ a, vk_R q.1 q.2.1 q.2.2 a U) ∧ (∀ w ∈ lw_tbl, isCD w = true → va_Nw w U) ∧ va_Nc R_ISE R_IAE U
theorem ZX.to {A B : Nat → Prop} {s U : State} {H : Heap} {locs : List Loc} (h : ZX A s) (hS : va_S A s.heap H locs) (hAB : ∀ q, B q → A q) (hU : U.heap = H) (hW : s.WarmedH U.vm) : ZX B U := by
  obtain ⟨h1, h2, h3, h4, h5⟩ := h
  refine ⟨?_, ?_, fun q hq => ?_, fun w hw hc => warmCD hc hW (h4 w hw hc), h5.moved hW.alike⟩
  · rw [hU]; exact ((h1.kept hS.2.1).moved hW.alike).narrow hAB
  · rw [hU]; exact ((h2.kept hS.2.1).moved hW.alike).narrow hAB
  · obtain ⟨a, ha⟩ := h3 q hq
    exact ⟨a, ha.warm hW⟩
theorem ZX.call {B : Nat → Prop} {U : State} {g : JFrame} {mk : MethodId} {a : Array Value} (h : ZX B U) : ZX B (U.calling g mk a) := by
  obtain ⟨h1, h2, h3, h4, h5⟩ := h
  refine ⟨vx_Zq.moved (Vm.Alike.refl U.vm) h1, vx_Zq.moved (Vm.Alike.refl U.vm) h2, fun q hq => ?_, fun w hw hc => sameCD (s := U) hc (rfl : U.vm = (U.calling g mk a).vm) (h4 w hw hc), h5.moved (Vm.Alike.refl U.vm)⟩
  obtain ⟨a, ha⟩ := h3 q hq
  exact ⟨a, ha.same rfl⟩
theorem th_c (w : Cond) (L : List Cond) (h : w ∈ L) (h1 : ∀ w ∈ L.filter goodWord, w ∈ tblG) (h2 : (L.filter (fun w => !goodWord w)).all isCD = true) (h3 : ∀ w ∈ L, w ∈ lw_tbl) : w ∈ tblG ∨ (isCD w = true ∧ w ∈ lw_tbl) := by
  cases hg : goodWord w with
  | true => exact Or.inl (h1 w (List.mem_filter.mpr ⟨h, hg⟩))
  | false => exact Or.inr ⟨List.all_eq_true.mp h2 w (List.mem_filter.mpr ⟨h, by simp [hg]⟩), h3 w h⟩
def thL (k : Nat) : List Cond := if k = 1 then vx_atS R_MK 91 R_IAE exSup else vx_atS R_MK 60 R_ISE exSup
theorem th_g1 : ∀ w ∈ (thL 1).filter goodWord, w ∈ tblG := by decide +kernel
theorem th_n1 : ((thL 1).filter (fun w => !goodWord w)).all isCD = true := by decide +kernel
theorem th_a1 : ∀ w ∈ thL 1, w ∈ lw_tbl := by decide +kernel
theorem th_g2 : ∀ w ∈ (thL 2).filter goodWord, w ∈ tblG := by decide +kernel
theorem th_n2 : ((thL 2).filter (fun w => !goodWord w)).all isCD = true := by decide +kernel
theorem th_a2 : ∀ w ∈ thL 2, w ∈ lw_tbl := by decide +kernel
theorem th_at1 {args : Array Value} {s : State} (ht : ∀ w ∈ tblG, w.before args s = true) (hz : ∀ w ∈ lw_tbl, isCD w = true → va_Nw w s) : ∀ w ∈ vx_atS R_MK 91 R_IAE exSup, w.before args s = true := fun w hw => (th_c w (thL 1) hw th_g1 th_n1 th_a1).elim (ht w) (fun h => useCD h.1 (hz w h.2 h.1))
theorem th_at2 {args : Array Value} {s : State} (ht : ∀ w ∈ tblG, w.before args s = true) (hz : ∀ w ∈ lw_tbl, isCD w = true → va_Nw w s) : ∀ w ∈ vx_atS R_MK 60 R_ISE exSup, w.before args s = true := fun w hw => (th_c w (thL 2) hw th_g2 th_n2 th_a2).elim (ht w) (fun h => useCD h.1 (hz w h.2 h.1))
theorem th_good1 : ∀ w ∈ Cond.classLink R_MK 87 R_IAE :: Cond.initialized R_IAE :: vx_atS R_MK 91 R_IAE exSup, vx_ot w = true := by decide +kernel
theorem th_good2 : ∀ w ∈ Cond.classLink R_MK 56 R_ISE :: Cond.initialized R_ISE :: vx_atS R_MK 60 R_ISE exSup, vx_ot w = true := by decide +kernel
theorem mCA1 : Cond.castable R_IAE R_IAE ∈ lw_tbl := by decide +kernel
theorem mCA2 : Cond.castable R_ISE R_ISE ∈ lw_tbl := by decide +kernel
theorem gz_ofWH {l : Launch} {y : MethodName} {ws ws' : List Cond} {rm : Room} {Pc : Array Value → State → Prop} {Qc : Array Value → State → Outcome → State → Prop} {mc ms : Nat} {free : Addr → Prop} {cc : ByteArray} {maxL : Nat} {ret : Option FieldType} {hh : List (Nat × Nat × Nat × Nat)}
    (hy : plainName y.cls = true) (hw : ws = Cond.codeWith y cc maxL ret hh :: ws')
    (body : ∀ p e s m args below meth c s₁, BodyLoose p l y (headSpec ws rm) cc maxL ret e s m args below meth c s₁ → c.maxLocals = maxL → c.exceptionTable.toList = tableOf hh → Pc args s →
      W p l e (headSpec ws rm).room s m args below meth c s.heap [] 0 0 (MQ below Qc args s mc ms free) (entryFrame m args maxL)) : Met l y ws rm Pc Qc mc ms free := by
  refine MetFree.of_bodyS (code := cc) (maxLocals := maxL) (ret := ret) hy ?_ ?_
  · intro args s m h hn
    obtain ⟨m9, meth, c, hn9, h1, h2, h3, h4, -, h5, h6, -⟩ := Cond.codeWith_spec (atoms_spec (ws := ws) h _ (by rw [hw]; exact List.mem_cons_self))
    cases hn.symm.trans hn9
    exact ⟨meth, c, h1, h2, h3, h4, h5, h6⟩
  · intro p e s m args below meth c s₁ B hml hP _
    have hh0 : s₁.heap = s.heap := by rw [B.state]; rfl
    have htab : c.exceptionTable.toList = tableOf hh := vx_table (x := y) B (atoms_spec (ws := ws) B.pre _ (by rw [hw]; exact List.mem_cons_self))
    obtain ⟨t, a1, o, b1, b2, b3⟩ := body p e s m args below meth c s₁ B hml htab hP s₁ hh0 (Stand.of_body B)
    exact ⟨t, o, a1, b1, b2, ⟨b3.1, b3.2⟩⟩
