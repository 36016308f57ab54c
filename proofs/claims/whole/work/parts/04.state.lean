/-- ints and longs by place and field (or element) -/
abbrev SS : Type := (Nat → Nat → Int32) × (Nat → Nat → Int64)
def wI (S : SS) (p k : Nat) (v : Int32) : SS := (fun a b => if a = p ∧ b = k then v else S.1 a b, S.2)
def wL (S : SS) (p k : Nat) (v : Int64) : SS := (S.1, fun a b => if a = p ∧ b = k then v else S.2 a b)
def FU : Nat := 2147483648
abbrev oob (i : Int32) (n : Nat) : Prop := i < 0 ∨ n ≤ i.toNatClampNeg
abbrev NP : Nat := 39
def exN (k : Nat) : String := if k = 1 then "java/lang/IllegalArgumentException" else "java/lang/IllegalStateException"
def refsX (ad : Nat → Nat) (base n : Nat) : Nat → Option Nat := fun i => if i < n then some (ad (base + i)) else none
def cellR (cA : Nat → ClassId) (ad : Nat → Nat) (r1 : Nat → Int32) (r2 : Nat → Int64) (p : Nat) : va_E :=
  if p = 0 then .inr (0, [.ref (ad 1), .ref (ad 2), .ref (ad 3), .ref (ad 4), .int (r1 4)]) else
  if p = 1 then .inr (1, [.int (r1 0), .int (r1 1), .int (r1 2), .int (r1 3), .long (r2 4)]) else
  if p = 2 then .inr (2, [.ref (ad 1), .int (r1 1), .int (r1 2), .ref (ad 5), .ref (ad 6), .ref (ad 7), .ref (ad 8)]) else
  if p = 3 then .inr (3, [.ref (ad 1), .ref (ad 2), .int (r1 2), .int (r1 3), .int (r1 4)]) else
  if p = 4 then .inr (4, [.ref (ad 1), .ref (ad 2), .ref (ad 9)]) else
  if p = 5 then .inl (cA 0, 8, .inl r1) else
  if p = 6 then .inl (cA 2, 8, .inr (.inr (.inr (.inr (refsX ad 10 8))))) else
  if p = 7 then .inl (cA 1, 8, .inr (.inl r2)) else
  if p = 8 then .inl (cA 3, 9, .inr (.inr (.inr (.inr (refsX ad 18 9))))) else
  if p = 9 then .inl (cA 2, 6, .inr (.inr (.inr (.inr (refsX ad 27 6))))) else
  if p = 33 then .inr (5, [.int (r1 0), .int (r1 1), .int (r1 2), .int (r1 3), .int (r1 4), .ref (ad 34), .int (r1 6), .int (r1 7), .ref (ad 35), .int (r1 9), .int (r1 10), .ref (ad 36), .ref (ad 37)]) else
  if p = 34 then .inl (cA 4, 48, .inl r1) else
  if p = 35 then .inl (cA 4, 64, .inl r1) else
  if p = 36 then .inl (cA 0, 48, .inl r1) else
  if p = 37 then .inl (cA 0, 6, .inl r1) else
  if p = 38 then .inl (cA 1, 1, .inr (.inl r2)) else
  if 10 ≤ p ∧ p < 18 then .inl (cA 0, 6, .inl r1) else
  if 18 ≤ p ∧ p < 27 then .inl (cA 1, 6, .inr (.inl r2)) else
  if 27 ≤ p ∧ p < 33 then .inl (cA 0, 512, .inl r1) else
  .inr (0, [])
def cellOf (cA : Nat → ClassId) (ad : Nat → Nat) (S : SS) (p : Nat) : va_E := cellR cA ad (S.1 p) (S.2 p) p
def X (cA : Nat → ClassId) (ad : Nat → Nat) (S : SS) : va_W := (List.range NP).map (fun p => (ad p, cellOf cA ad S p))
def tysX (cA : Nat → ClassId) : List (ClassId × FieldType) := [(cA 0, .int), (cA 1, .long), (cA 2, .array .int), (cA 3, .array .long), (cA 4, .boolean)]
def AS (ad : Nat → Nat) (sz : Nat) : Nat → Prop := fun q => (∃ p, p < NP ∧ q = ad p) ∨ sz ≤ q
def InjA (ad : Nat → Nat) : Prop := ∀ i j, i < NP → j < NP → ad i = ad j → i = j
section XR
variable {cA : Nat → ClassId} {ad : Nat → Nat} {S : SS} {D : va_G} {cl : List vw_C} {H : Heap}
theorem X_at {p : Nat} (h : p < NP) : (X cA ad S)[p]? = some (ad p, cellOf cA ad S p) := by
  unfold X
  rw [List.getElem?_map, List.getElem?_range h]
  rfl
theorem X_of {k : Nat} {q : Nat × va_E} (h : (X cA ad S)[k]? = some q) : k < NP ∧ q = (ad k, cellOf cA ad S k) := by
  have hk : k < NP := by
    have := (List.getElem?_eq_some_iff.mp h).1
    simpa [X] using this
  rw [X_at hk] at h
  exact ⟨hk, (Option.some.inj h).symm⟩
theorem X_D {A : Nat → Prop} (hI : InjA ad) (hA : ∀ q, q < NP → A (ad q)) : va_D A (X cA ad S) := by
  refine ⟨fun i j p q hi hj e => ?_, fun k q hk => ?_⟩
  · obtain ⟨h1, rfl⟩ := X_of hi
    obtain ⟨h2, rfl⟩ := X_of hj
    exact hI i j h1 h2 e
  · obtain ⟨h1, rfl⟩ := X_of hk
    exact hA k h1
theorem cellOf_congr {S S' : SS} {p : Nat} (h1 : S.1 p = S'.1 p) (h2 : S.2 p = S'.2 p) : cellOf cA ad S p = cellOf cA ad S' p := by
  unfold cellOf
  rw [h1, h2]
theorem X_set {S' : SS} {p : Nat} {c : va_E} (h : p < NP) (hc : cellOf cA ad S' p = c) (ho : ∀ q, q ≠ p → S.1 q = S'.1 q ∧ S.2 q = S'.2 q) : (X cA ad S).set p (ad p, c) = X cA ad S' := by
  apply List.ext_getElem?
  intro j
  by_cases hj : j = p
  · subst hj
    rw [List.getElem?_set_self (by simpa [X] using h), X_at h, hc]
  · rw [List.getElem?_set_ne (Ne.symm hj)]
    by_cases hn : j < NP
    · rw [X_at hn, X_at hn, cellOf_congr (ho j hj).1 (ho j hj).2]
    · rw [List.getElem?_eq_none (by simpa [X] using hn), List.getElem?_eq_none (by simpa [X] using hn)]
theorem wI_ne {p k q : Nat} {v : Int32} (h : q ≠ p) : S.1 q = (wI S p k v).1 q := by
  funext b
  simp [wI, h]
theorem wL_ne {p k q : Nat} {v : Int64} (h : q ≠ p) : S.2 q = (wL S p k v).2 q := by
  funext b
  simp [wL, h]
theorem X_putI {p k ci : Nat} {v : Int32} {fs : List Value} (h : p < NP) (hP : va_P D cl ((X cA ad S).set p (ad p, .inr (ci, fs.set k (.int v)))) H) (hc : cellOf cA ad (wI S p k v) p = .inr (ci, fs.set k (.int v))) : va_P D cl (X cA ad (wI S p k v)) H := by
  rw [X_set (S := S) (S' := wI S p k v) h hc (fun q hq => ⟨wI_ne hq, rfl⟩)] at hP
  exact hP
theorem X_putL {p k ci : Nat} {v : Int64} {fs : List Value} (h : p < NP) (hP : va_P D cl ((X cA ad S).set p (ad p, .inr (ci, fs.set k (.long v)))) H) (hc : cellOf cA ad (wL S p k v) p = .inr (ci, fs.set k (.long v))) : va_P D cl (X cA ad (wL S p k v)) H := by
  rw [X_set (S := S) (S' := wL S p k v) h hc (fun q hq => ⟨rfl, wL_ne hq⟩)] at hP
  exact hP
theorem wI_row {p k : Nat} {v : Int32} : (wI S p k v).1 p = upd (S.1 p) k v := by
  funext b
  simp [wI, upd]
theorem wL_row {p k : Nat} {v : Int64} : (wL S p k v).2 p = vp_updL (S.2 p) k v := by
  funext b
  simp [wL, vp_updL]
theorem X_stI {p k n : Nat} {c : ClassId} {v : Int32} (h : p < NP) (hc : ∀ S : SS, cellOf cA ad S p = .inl (c, n, .inl (S.1 p))) (hP : va_P D cl ((X cA ad S).set p (ad p, .inl (c, n, .inl (upd (S.1 p) k v)))) H) : va_P D cl (X cA ad (wI S p k v)) H := by
  rw [X_set (S := S) (S' := wI S p k v) h (by rw [hc, wI_row]) (fun q hq => ⟨wI_ne hq, rfl⟩)] at hP
  exact hP
theorem X_stL {p k n : Nat} {c : ClassId} {v : Int64} (h : p < NP) (hc : ∀ S : SS, cellOf cA ad S p = .inl (c, n, .inr (.inl (S.2 p)))) (hP : va_P D cl ((X cA ad S).set p (ad p, .inl (c, n, .inr (.inl (vp_updL (S.2 p) k v))))) H) : va_P D cl (X cA ad (wL S p k v)) H := by
  rw [X_set (S := S) (S' := wL S p k v) h (by rw [hc, wL_row]) (fun q hq => ⟨rfl, wL_ne hq⟩)] at hP
  exact hP
theorem X_row {base n : Nat} {i : Int32} (b : ¬ oob i n) : va_rf (refsX ad base n i.toNatClampNeg) = .ref (ad (base + i.toNatClampNeg)) := by
  have h : i.toNatClampNeg < n := Nat.not_le.mp fun q => b (Or.inr q)
  simp [refsX, h, va_rf]
theorem oob_lt {n : Nat} {i : Int32} (b : ¬ oob i n) : i.toNatClampNeg < n := Nat.not_le.mp fun q => b (Or.inr q)
theorem Xa_0 : (X cA ad S)[0]? = some (ad 0, .inr (0, [.ref (ad 1), .ref (ad 2), .ref (ad 3), .ref (ad 4), .int (S.1 0 4)])) := X_at (p := 0) (by decide)
theorem Xa_1 : (X cA ad S)[1]? = some (ad 1, .inr (1, [.int (S.1 1 0), .int (S.1 1 1), .int (S.1 1 2), .int (S.1 1 3), .long (S.2 1 4)])) := X_at (p := 1) (by decide)
theorem Xa_2 : (X cA ad S)[2]? = some (ad 2, .inr (2, [.ref (ad 1), .int (S.1 2 1), .int (S.1 2 2), .ref (ad 5), .ref (ad 6), .ref (ad 7), .ref (ad 8)])) := X_at (p := 2) (by decide)
theorem Xa_3 : (X cA ad S)[3]? = some (ad 3, .inr (3, [.ref (ad 1), .ref (ad 2), .int (S.1 3 2), .int (S.1 3 3), .int (S.1 3 4)])) := X_at (p := 3) (by decide)
theorem Xa_4 : (X cA ad S)[4]? = some (ad 4, .inr (4, [.ref (ad 1), .ref (ad 2), .ref (ad 9)])) := X_at (p := 4) (by decide)
theorem Xa_5 : (X cA ad S)[5]? = some (ad 5, .inl (cA 0, 8, .inl (S.1 5))) := X_at (p := 5) (by decide)
theorem Xc_5 (S : SS) : cellOf cA ad S 5 = .inl (cA 0, 8, .inl (S.1 5)) := rfl
theorem Xa_6 : (X cA ad S)[6]? = some (ad 6, .inl (cA 2, 8, .inr (.inr (.inr (.inr (refsX ad 10 8)))))) := X_at (p := 6) (by decide)
theorem Xa_7 : (X cA ad S)[7]? = some (ad 7, .inl (cA 1, 8, .inr (.inl (S.2 7)))) := X_at (p := 7) (by decide)
theorem Xc_7 (S : SS) : cellOf cA ad S 7 = .inl (cA 1, 8, .inr (.inl (S.2 7))) := rfl
theorem Xa_8 : (X cA ad S)[8]? = some (ad 8, .inl (cA 3, 9, .inr (.inr (.inr (.inr (refsX ad 18 9)))))) := X_at (p := 8) (by decide)
theorem Xa_9 : (X cA ad S)[9]? = some (ad 9, .inl (cA 2, 6, .inr (.inr (.inr (.inr (refsX ad 27 6)))))) := X_at (p := 9) (by decide)
theorem Xa_33 : (X cA ad S)[33]? = some (ad 33, .inr (5, [.int (S.1 33 0), .int (S.1 33 1), .int (S.1 33 2), .int (S.1 33 3), .int (S.1 33 4), .ref (ad 34), .int (S.1 33 6), .int (S.1 33 7), .ref (ad 35), .int (S.1 33 9), .int (S.1 33 10), .ref (ad 36), .ref (ad 37)])) := X_at (p := 33) (by decide)
theorem Xa_34 : (X cA ad S)[34]? = some (ad 34, .inl (cA 4, 48, .inl (S.1 34))) := X_at (p := 34) (by decide)
theorem Xc_34 (S : SS) : cellOf cA ad S 34 = .inl (cA 4, 48, .inl (S.1 34)) := rfl
theorem Xa_35 : (X cA ad S)[35]? = some (ad 35, .inl (cA 4, 64, .inl (S.1 35))) := X_at (p := 35) (by decide)
theorem Xc_35 (S : SS) : cellOf cA ad S 35 = .inl (cA 4, 64, .inl (S.1 35)) := rfl
theorem Xa_36 : (X cA ad S)[36]? = some (ad 36, .inl (cA 0, 48, .inl (S.1 36))) := X_at (p := 36) (by decide)
theorem Xc_36 (S : SS) : cellOf cA ad S 36 = .inl (cA 0, 48, .inl (S.1 36)) := rfl
theorem Xa_37 : (X cA ad S)[37]? = some (ad 37, .inl (cA 0, 6, .inl (S.1 37))) := X_at (p := 37) (by decide)
theorem Xc_37 (S : SS) : cellOf cA ad S 37 = .inl (cA 0, 6, .inl (S.1 37)) := rfl
theorem Xa_38 : (X cA ad S)[38]? = some (ad 38, .inl (cA 1, 1, .inr (.inl (S.2 38)))) := X_at (p := 38) (by decide)
theorem Xc_38 (S : SS) : cellOf cA ad S 38 = .inl (cA 1, 1, .inr (.inl (S.2 38))) := rfl
theorem Xg_6 (S : SS) {j : Nat} (h : j < 8) : cellOf cA ad S (10 + j) = .inl (cA 0, 6, .inl (S.1 (10 + j))) := by
  unfold cellOf cellR
  rw [if_neg (show ¬ 10 + j = 0 by omega), if_neg (show ¬ 10 + j = 1 by omega), if_neg (show ¬ 10 + j = 2 by omega), if_neg (show ¬ 10 + j = 3 by omega), if_neg (show ¬ 10 + j = 4 by omega), if_neg (show ¬ 10 + j = 5 by omega), if_neg (show ¬ 10 + j = 6 by omega), if_neg (show ¬ 10 + j = 7 by omega), if_neg (show ¬ 10 + j = 8 by omega), if_neg (show ¬ 10 + j = 9 by omega), if_neg (show ¬ 10 + j = 33 by omega), if_neg (show ¬ 10 + j = 34 by omega), if_neg (show ¬ 10 + j = 35 by omega), if_neg (show ¬ 10 + j = 36 by omega), if_neg (show ¬ 10 + j = 37 by omega), if_neg (show ¬ 10 + j = 38 by omega)]
  exact if_pos ⟨by omega, by omega⟩
theorem X_rowlt6 {i : Int32} (b : ¬ oob i 8) : 10 + i.toNatClampNeg < NP := by
  have := oob_lt b
  simp only [NP]
  omega
theorem X_rowcell6 {i : Int32} (b : ¬ oob i 8) (S : SS) : cellOf cA ad S (10 + i.toNatClampNeg) = .inl (cA 0, 6, .inl (S.1 (10 + i.toNatClampNeg))) := Xg_6 S (oob_lt b)
theorem X_rowat6 {i : Int32} (b : ¬ oob i 8) : (X cA ad S)[10 + i.toNatClampNeg]? = some (ad (10 + i.toNatClampNeg), .inl (cA 0, 6, .inl (S.1 (10 + i.toNatClampNeg)))) := by
  rw [X_at (X_rowlt6 b), X_rowcell6 b]
theorem Xg_8 (S : SS) {j : Nat} (h : j < 9) : cellOf cA ad S (18 + j) = .inl (cA 1, 6, .inr (.inl (S.2 (18 + j)))) := by
  unfold cellOf cellR
  rw [if_neg (show ¬ 18 + j = 0 by omega), if_neg (show ¬ 18 + j = 1 by omega), if_neg (show ¬ 18 + j = 2 by omega), if_neg (show ¬ 18 + j = 3 by omega), if_neg (show ¬ 18 + j = 4 by omega), if_neg (show ¬ 18 + j = 5 by omega), if_neg (show ¬ 18 + j = 6 by omega), if_neg (show ¬ 18 + j = 7 by omega), if_neg (show ¬ 18 + j = 8 by omega), if_neg (show ¬ 18 + j = 9 by omega), if_neg (show ¬ 18 + j = 33 by omega), if_neg (show ¬ 18 + j = 34 by omega), if_neg (show ¬ 18 + j = 35 by omega), if_neg (show ¬ 18 + j = 36 by omega), if_neg (show ¬ 18 + j = 37 by omega), if_neg (show ¬ 18 + j = 38 by omega)]
  rw [if_neg (show ¬ (10 ≤ 18 + j ∧ 18 + j < 18) by omega)]
  exact if_pos ⟨by omega, by omega⟩
theorem X_rowlt8 {i : Int32} (b : ¬ oob i 9) : 18 + i.toNatClampNeg < NP := by
  have := oob_lt b
  simp only [NP]
  omega
theorem X_rowcell8 {i : Int32} (b : ¬ oob i 9) (S : SS) : cellOf cA ad S (18 + i.toNatClampNeg) = .inl (cA 1, 6, .inr (.inl (S.2 (18 + i.toNatClampNeg)))) := Xg_8 S (oob_lt b)
theorem X_rowat8 {i : Int32} (b : ¬ oob i 9) : (X cA ad S)[18 + i.toNatClampNeg]? = some (ad (18 + i.toNatClampNeg), .inl (cA 1, 6, .inr (.inl (S.2 (18 + i.toNatClampNeg))))) := by
  rw [X_at (X_rowlt8 b), X_rowcell8 b]
theorem Xg_9 (S : SS) {j : Nat} (h : j < 6) : cellOf cA ad S (27 + j) = .inl (cA 0, 512, .inl (S.1 (27 + j))) := by
  unfold cellOf cellR
  rw [if_neg (show ¬ 27 + j = 0 by omega), if_neg (show ¬ 27 + j = 1 by omega), if_neg (show ¬ 27 + j = 2 by omega), if_neg (show ¬ 27 + j = 3 by omega), if_neg (show ¬ 27 + j = 4 by omega), if_neg (show ¬ 27 + j = 5 by omega), if_neg (show ¬ 27 + j = 6 by omega), if_neg (show ¬ 27 + j = 7 by omega), if_neg (show ¬ 27 + j = 8 by omega), if_neg (show ¬ 27 + j = 9 by omega), if_neg (show ¬ 27 + j = 33 by omega), if_neg (show ¬ 27 + j = 34 by omega), if_neg (show ¬ 27 + j = 35 by omega), if_neg (show ¬ 27 + j = 36 by omega), if_neg (show ¬ 27 + j = 37 by omega), if_neg (show ¬ 27 + j = 38 by omega)]
  rw [if_neg (show ¬ (10 ≤ 27 + j ∧ 27 + j < 18) by omega)]
  rw [if_neg (show ¬ (18 ≤ 27 + j ∧ 27 + j < 27) by omega)]
  exact if_pos ⟨by omega, by omega⟩
theorem X_rowlt9 {i : Int32} (b : ¬ oob i 6) : 27 + i.toNatClampNeg < NP := by
  have := oob_lt b
  simp only [NP]
  omega
theorem X_rowcell9 {i : Int32} (b : ¬ oob i 6) (S : SS) : cellOf cA ad S (27 + i.toNatClampNeg) = .inl (cA 0, 512, .inl (S.1 (27 + i.toNatClampNeg))) := Xg_9 S (oob_lt b)
theorem X_rowat9 {i : Int32} (b : ¬ oob i 6) : (X cA ad S)[27 + i.toNatClampNeg]? = some (ad (27 + i.toNatClampNeg), .inl (cA 0, 512, .inl (S.1 (27 + i.toNatClampNeg)))) := by
  rw [X_at (X_rowlt9 b), X_rowcell9 b]
end XR
theorem zb_f {v : Int32} (h : v = 0 ∨ v = 1) : fits .boolean (.int v) = true := by
  rcases h with rfl | rfl <;> rfl
section GZ
variable {p : Program} {l : Launch} {e : Env} {R : Room} {s : State} {m : MethodId} {args : Array Value} {below : List Frame} {meth : Method} {c : Code} {H : Heap} {locs : List Loc} {cells slots : Nat} {Q : State → Prop}
variable {cc : ByteArray} {pc : Nat} {ls : Array Slot} {rest : List Value} {D : va_G} {cl : List vw_C} {a : Nat} {tys : List (ClassId × FieldType)} {ws : va_W}
/-- a row of an array of arrays -/
theorem gz_aald (hx : p.tables.exec = Jvm.exec) (hb : c.code = cc) (hK : va_K D cl tys s) (hP : va_P D cl ws H) (q0 t0 : Nat) {cA : ClassId} {t : FieldType} {n : Nat} {f : Nat → Option Nat} (ha : ws[q0]? = some (a, .inl (cA, n, .inr (.inr (.inr (.inr f)))))) (ht : tys[t0]? = some (cA, .array t)) {i : Int32} (hin : vp_in i n) (hdg : decode cc pc = .ok (.aaload, 1))
    (kk : W p l e R s m args below meth c H locs cells slots Q (F0 m (pc + 1) ls (va_rf (f i.toNatClampNeg) :: rest))) : W p l e R s m args below meth c H locs cells slots Q (F0 m pc ls (.int i :: .ref a :: rest)) := by
  have hlt : i.toNatClampNeg < n := Nat.not_le.mp fun q => hin (Or.inr q)
  have hk : (vp_cell cA (n, .inr (.inr (.inr (.inr f))))).slots[i.toNatClampNeg]? = some (va_rf (f i.toNatClampNeg)) := by
    show (arrV _ _ _).slots[_]? = _
    rw [arrV_read _ _ hlt]
  have hz : ¬ (i < 0 ∨ (vp_cell cA (n, .inr (.inr (.inr (.inr f))))).slots.size ≤ i.toNatClampNeg) := by
    show ¬ (i < 0 ∨ (arrV _ _ _).slots.size ≤ _)
    rw [arrV_size]
    exact hin
  exact W.aald (ty := .array t) hx hb (hP q0 _ ha) ((hK.2 t0 _ ht).1 n (fun j => va_rf (f j))) rfl (fun q => by cases q) hz hk rfl rfl hdg kk
end GZ
theorem zb_n {v : Int32} (h : v = 0 ∨ v = 1) : narrow .boolean (.int v) = .int v := by
  rcases h with rfl | rfl <;> rfl
