/-! guards -/
theorem a_case (a : Int32) {N : Nat} (hN : N ≤ 300000) : (∃ x, x < N ∧ a = nI x) ∨ (a < nI 0 ∨ ¬ a < nI N) := by
  by_cases h : a < 0
  · exact Or.inr (Or.inl h)
  · obtain ⟨x, hx, rfl⟩ := nI_of h
    rcases Nat.lt_or_ge x N with h1 | h1
    · exact Or.inl ⟨x, h1, rfl⟩
    · exact Or.inr (Or.inr (nI_nlt h1 hx))
theorem c_nKey_t {S : SS} {N x : Nat} (e : S.1 2 1 = nI N) (h : x < N) (hN : N ≤ 8) : f_MK_needKey (nI x) S = some (.inr ()) := by
  rw [f_MK_needKey_s]
  simp (disch := omega) only [q_le_t, q_le_f, q_lt_t, q_lt_f, q_eq_t, q_eq_f, q_oob, q_cl, q_mul, nI_add, z0, z1, z2, z4, z6, z7, z8, z64, z512, zT, if_b0, if_b1, if_b01, ite_true, ite_false, ↓reduceIte, Option.bind_some, Sum.elim_inl, Sum.elim_inr, e]
theorem c_nKey_f {S : SS} {N : Nat} {a : Int32} (e : S.1 2 1 = nI N) (h : a < nI 0 ∨ ¬ a < nI N) : f_MK_needKey a S = some (.inl 1) := by
  rw [f_MK_needKey_s, z0, e]
  rcases h with h | h
  · rw [if_pos h]
  · rw [if_neg h, ite_self]
theorem c_nDoor_t {S : SS} {N x : Nat} (e : S.1 2 2 = nI N) (h : x < N) (hN : N ≤ 8) : f_MK_needDoor (nI x) S = some (.inr ()) := by
  rw [f_MK_needDoor_s]
  simp (disch := omega) only [q_le_t, q_le_f, q_lt_t, q_lt_f, q_eq_t, q_eq_f, q_oob, q_cl, q_mul, nI_add, z0, z1, z2, z4, z6, z7, z8, z64, z512, zT, if_b0, if_b1, if_b01, ite_true, ite_false, ↓reduceIte, Option.bind_some, Sum.elim_inl, Sum.elim_inr, e]
theorem c_nDoor_f {S : SS} {N : Nat} {a : Int32} (e : S.1 2 2 = nI N) (h : a < nI 0 ∨ ¬ a < nI N) : f_MK_needDoor a S = some (.inl 1) := by
  rw [f_MK_needDoor_s, z0, e]
  rcases h with h | h
  · rw [if_pos h]
  · rw [if_neg h, ite_self]
theorem c_nPin_t {S : SS} {N x : Nat} (e : S.1 1 0 = nI N) (h : x < N) (hN : N ≤ 8) : f_MK_needPin (nI x) S = some (.inr ()) := by
  rw [f_MK_needPin_s]
  simp (disch := omega) only [q_le_t, q_le_f, q_lt_t, q_lt_f, q_eq_t, q_eq_f, q_oob, q_cl, q_mul, nI_add, z0, z1, z2, z4, z6, z7, z8, z64, z512, zT, if_b0, if_b1, if_b01, ite_true, ite_false, ↓reduceIte, Option.bind_some, Sum.elim_inl, Sum.elim_inr, e]
theorem c_nPin_f {S : SS} {N : Nat} {a : Int32} (e : S.1 1 0 = nI N) (h : a < nI 0 ∨ ¬ a < nI N) : f_MK_needPin a S = some (.inl 1) := by
  rw [f_MK_needPin_s, z0, e]
  rcases h with h | h
  · rw [if_pos h]
  · rw [if_neg h, ite_self]
theorem c_nDepth_t {S : SS} {N x : Nat} (e : S.1 1 1 = nI N) (h : x < N) (hN : N ≤ 8) : f_MK_needDepth (nI x) S = some (.inr ()) := by
  rw [f_MK_needDepth_s]
  simp (disch := omega) only [q_le_t, q_le_f, q_lt_t, q_lt_f, q_eq_t, q_eq_f, q_oob, q_cl, q_mul, nI_add, z0, z1, z2, z4, z6, z7, z8, z64, z512, zT, if_b0, if_b1, if_b01, ite_true, ite_false, ↓reduceIte, Option.bind_some, Sum.elim_inl, Sum.elim_inr, e]
theorem c_nDepth_f {S : SS} {N : Nat} {a : Int32} (e : S.1 1 1 = nI N) (h : a < nI 0 ∨ ¬ a < nI N) : f_MK_needDepth a S = some (.inl 1) := by
  rw [f_MK_needDepth_s, z0, e]
  rcases h with h | h
  · rw [if_pos h]
  · rw [if_neg h, ite_self]
theorem r_nKey_t {S : SS} {N x : Nat} (e : S.1 33 3 = nI N) (h : x < N) (hN : N ≤ 8) : f_RM_noKey (nI x) S = some (nI 0) := by
  rw [f_RM_noKey_s]
  simp (disch := omega) only [q_le_t, q_le_f, q_lt_t, q_lt_f, q_eq_t, q_eq_f, q_oob, q_cl, q_mul, nI_add, z0, z1, z2, z4, z6, z7, z8, z64, z512, zT, if_b0, if_b1, if_b01, ite_true, ite_false, ↓reduceIte, Option.bind_some, Sum.elim_inl, Sum.elim_inr, e]
theorem r_nKey_f {S : SS} {N : Nat} {a : Int32} (e : S.1 33 3 = nI N) (h : a < nI 0 ∨ ¬ a < nI N) : f_RM_noKey a S = some (nI 1) := by
  rw [f_RM_noKey_s, z0, z1, e]
  rcases h with h | h
  · rw [if_pos h]
  · rw [if_neg h, ite_self]
theorem r_nDoor_t {S : SS} {N x : Nat} (e : S.1 33 4 = nI N) (h : x < N) (hN : N ≤ 8) : f_RM_noDoor (nI x) S = some (nI 0) := by
  rw [f_RM_noDoor_s]
  simp (disch := omega) only [q_le_t, q_le_f, q_lt_t, q_lt_f, q_eq_t, q_eq_f, q_oob, q_cl, q_mul, nI_add, z0, z1, z2, z4, z6, z7, z8, z64, z512, zT, if_b0, if_b1, if_b01, ite_true, ite_false, ↓reduceIte, Option.bind_some, Sum.elim_inl, Sum.elim_inr, e]
theorem r_nDoor_f {S : SS} {N : Nat} {a : Int32} (e : S.1 33 4 = nI N) (h : a < nI 0 ∨ ¬ a < nI N) : f_RM_noDoor a S = some (nI 1) := by
  rw [f_RM_noDoor_s, z0, z1, e]
  rcases h with h | h
  · rw [if_pos h]
  · rw [if_neg h, ite_self]
theorem r_nPin_t {S : SS} {N x : Nat} (e : S.1 33 1 = nI N) (h : x < N) (hN : N ≤ 8) : f_RM_noPin (nI x) S = some (nI 0) := by
  rw [f_RM_noPin_s]
  simp (disch := omega) only [q_le_t, q_le_f, q_lt_t, q_lt_f, q_eq_t, q_eq_f, q_oob, q_cl, q_mul, nI_add, z0, z1, z2, z4, z6, z7, z8, z64, z512, zT, if_b0, if_b1, if_b01, ite_true, ite_false, ↓reduceIte, Option.bind_some, Sum.elim_inl, Sum.elim_inr, e]
theorem r_nPin_f {S : SS} {N : Nat} {a : Int32} (e : S.1 33 1 = nI N) (h : a < nI 0 ∨ ¬ a < nI N) : f_RM_noPin a S = some (nI 1) := by
  rw [f_RM_noPin_s, z0, z1, e]
  rcases h with h | h
  · rw [if_pos h]
  · rw [if_neg h, ite_self]
theorem r_nDepth_t {S : SS} {N x : Nat} (e : S.1 33 2 = nI N) (h : x < N) (hN : N ≤ 8) : f_RM_noDepth (nI x) S = some (nI 0) := by
  rw [f_RM_noDepth_s]
  simp (disch := omega) only [q_le_t, q_le_f, q_lt_t, q_lt_f, q_eq_t, q_eq_f, q_oob, q_cl, q_mul, nI_add, z0, z1, z2, z4, z6, z7, z8, z64, z512, zT, if_b0, if_b1, if_b01, ite_true, ite_false, ↓reduceIte, Option.bind_some, Sum.elim_inl, Sum.elim_inr, e]
theorem r_nDepth_f {S : SS} {N : Nat} {a : Int32} (e : S.1 33 2 = nI N) (h : a < nI 0 ∨ ¬ a < nI N) : f_RM_noDepth a S = some (nI 1) := by
  rw [f_RM_noDepth_s, z0, z1, e]
  rcases h with h | h
  · rw [if_pos h]
  · rw [if_neg h, ite_self]
/-! what holds between calls -/
def FP (n m K D st tp : Nat) (br mu : Nat → Nat → Prop) (c : Nat → Nat → Nat) (S : SS) : Prop :=
  (∀ k p, k < K → p < n → c k p < m ∧ S.1 (10 + k) p = nI (c k p) ∧ S.1 36 (n * k + p) = nI (c k p)) ∧
  (∀ k, k < K → S.2 7 k = lN (mk (rb n (c k)) 48)) ∧
  (∀ d, d < D → S.2 (18 + K) d = lN (mk (hb n mu c K d) 48)) ∧
  (∀ k p, k < K → p + 1 < n → May st br (c k p) (c k (p + 1))) ∧
  (∀ i k, i < k → k < K → ¬ Alike c n i k)
def IN (n m K D st tp : Nat) (br mu : Nat → Nat → Prop) (S : SS) : Prop :=
  BD n m K D st tp ∧ CQ n m K D st tp br mu S ∧ RQ n m K D st tp br mu S ∧ (∀ k d, mu k d → k < K ∧ d < D) ∧
  (∀ d, d < 6 → S.2 18 d = lN 0) ∧ S.1 3 2 = S.1 33 10 ∧ S.1 0 4 = S.1 33 9 ∧
  (S.1 33 9 = nI 0 ∨ (S.1 33 9 = nI 1 ∧ ∃ c, FP n m K D st tp br mu c S))
def Inv (S : SS) : Prop := ∃ n m K D st tp br mu, IN n m K D st tp br mu S
def StI (fL fR : SS → Option (Int32 × SS)) (S : SS) : Prop := ∃ k S1 b S2, fL S = some (k, S1) ∧ fR S1 = some (b, S2) ∧ S2.1 33 0 = k ∧ (k = nI 0 → S2.2 38 0 = b.toInt64) ∧ Inv S2
def StB (fL fR : SS → Option (Int32 × SS)) (S : SS) : Prop := ∃ k S1 b S2, fL S = some (k, S1) ∧ fR S1 = some (b, S2) ∧ S2.1 33 0 = k ∧ (k = nI 0 → S2.2 38 0 = if b = nI 0 then 0 else 1) ∧ Inv S2
/-- the answer's place and the reference's code touch nothing -/
theorem FP_f {n m K D st tp : Nat} {br mu : Nat → Nat → Prop} {c : Nat → Nat → Nat} {S S' : SS} (h1 : ∀ p k, ((10 ≤ p ∧ p < 18) ∨ p = 36) → S'.1 p k = S.1 p k) (h2 : ∀ p k, (p = 7 ∨ (18 ≤ p ∧ p < 27)) → S'.2 p k = S.2 p k) (hK : K ≤ 8) (h : FP n m K D st tp br mu c S) : FP n m K D st tp br mu c S' := by
  obtain ⟨a1, a2, a3, a4, a5⟩ := h
  refine ⟨fun k p hk hp => ?_, fun k hk => ?_, fun d hd => ?_, a4, a5⟩
  · obtain ⟨q1, q2, q3⟩ := a1 k p hk hp
    exact ⟨q1, by rw [h1 _ _ (by omega)]; exact q2, by rw [h1 _ _ (by omega)]; exact q3⟩
  · rw [h2 _ _ (by omega)]; exact a2 k hk
  · rw [h2 _ _ (by omega)]; exact a3 d hd
theorem IN_f {n m K D st tp : Nat} {br mu : Nat → Nat → Prop} {S S' : SS} (h1 : ∀ p k, ((10 ≤ p ∧ p < 18) ∨ p = 36 ∨ p = 34 ∨ p = 35 ∨ (p = 33 ∧ 1 ≤ k ∧ k ≤ 10) ∨ p ≤ 5) → S'.1 p k = S.1 p k) (h2 : ∀ p k, (p = 1 ∨ p = 7 ∨ (18 ≤ p ∧ p < 27)) → S'.2 p k = S.2 p k) (h : IN n m K D st tp br mu S) : IN n m K D st tp br mu S' := by
  obtain ⟨a1, a2, a3, a4, a5, a6, a7, a8⟩ := h
  have hK : K ≤ 8 := a1.2.2.2.2.1
  refine ⟨a1, CQ_f (fun p k q => h1 p k (by omega)) (h2 1 4 (by omega)) a2, RQ_f (fun p k q => h1 p k (by omega)) a3, a4, fun d hd => ?_, ?_, ?_, ?_⟩
  · rw [h2 _ _ (by omega)]; exact a5 d hd
  · rw [h1 3 2 (by omega), h1 33 10 (by omega)]; exact a6
  · rw [h1 0 4 (by omega), h1 33 9 (by omega)]; exact a7
  · rw [h1 33 9 (by omega)]
    rcases a8 with h | ⟨h, c, hc⟩
    · exact Or.inl h
    · exact Or.inr ⟨h, c, FP_f (fun p k q => h1 p k (by omega)) (fun p k q => h2 p k (by omega)) hK hc⟩
theorem nar0 : vp_nar .boolean (nI 0) = nI 0 := by rfl
theorem nar1 : vp_nar .boolean (nI 1) = nI 1 := by rfl
/-- a refused call: code, nothing else -/
theorem st_no {fL fR : SS → Option (Int32 × SS)} {S : SS} {k : Nat} {b : Int32} (hI : Inv S) (e1 : fL S = some (nI k, S)) (e2 : fR S = some (b, wI S 33 0 (nI k))) (h0 : k ≠ 0) (h2 : k < 100) : StI fL fR S := by
  obtain ⟨n, m, K, D, st, tp, br, mu, h⟩ := hI
  refine ⟨nI k, S, b, _, e1, e2, w_s, fun q => absurd ((nI_eq (by omega) (by omega)).mp q) h0, n, m, K, D, st, tp, br, mu, IN_f (fun p k q => w_n (by omega)) (fun _ _ _ => rfl) h⟩
theorem st_noB {fL fR : SS → Option (Int32 × SS)} {S : SS} {k : Nat} {b : Int32} (hI : Inv S) (e1 : fL S = some (nI k, S)) (e2 : fR S = some (b, wI S 33 0 (nI k))) (h0 : k ≠ 0) (h2 : k < 100) : StB fL fR S := by
  obtain ⟨n, m, K, D, st, tp, br, mu, h⟩ := hI
  refine ⟨nI k, S, b, _, e1, e2, w_s, fun q => absurd ((nI_eq (by omega) (by omega)).mp q) h0, n, m, K, D, st, tp, br, mu, IN_f (fun p k q => w_n (by omega)) (fun _ _ _ => rfl) h⟩
/-- an answered call that changes nothing -/
theorem st_ans {fL fR : SS → Option (Int32 × SS)} {S : SS} {x : Int64} {b : Int32} (hI : Inv S) (e1 : fL S = some (nI 0, wL S 38 0 x)) (e2 : fR (wL S 38 0 x) = some (b, wI (wL S 38 0 x) 33 0 (nI 0))) (hx : x = b.toInt64) : StI fL fR S := by
  obtain ⟨n, m, K, D, st, tp, br, mu, h⟩ := hI
  refine ⟨nI 0, _, b, _, e1, e2, w_s, fun _ => ?_, n, m, K, D, st, tp, br, mu, IN_f (fun p k q => by rw [w_n (by omega)]; rfl) (fun p k q => by rw [w_2, u_n (by omega)]) h⟩
  rw [w_2, u_s, hx]
theorem st_ansB {fL fR : SS → Option (Int32 × SS)} {S : SS} {x : Int64} {b : Int32} (hI : Inv S) (e1 : fL S = some (nI 0, wL S 38 0 x)) (e2 : fR (wL S 38 0 x) = some (b, wI (wL S 38 0 x) 33 0 (nI 0))) (hx : x = if b = nI 0 then 0 else 1) : StB fL fR S := by
  obtain ⟨n, m, K, D, st, tp, br, mu, h⟩ := hI
  refine ⟨nI 0, _, b, _, e1, e2, w_s, fun _ => ?_, n, m, K, D, st, tp, br, mu, IN_f (fun p k q => by rw [w_n (by omega)]; rfl) (fun p k q => by rw [w_2, u_n (by omega)]) h⟩
  rw [w_2, u_s, hx]
