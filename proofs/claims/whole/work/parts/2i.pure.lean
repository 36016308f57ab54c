/-! the least row -/
theorem FP_g {n m K D st tp : Nat} {br mu : Nat → Nat → Prop} {c : Nat → Nat → Nat} {S S' : SS} (h1 : ∀ k p, k < K → S'.1 (10 + k) p = S.1 (10 + k) p) (h3 : ∀ k, S'.1 36 k = S.1 36 k) (h2 : S'.2 = S.2) (h : FP n m K D st tp br mu c S) : FP n m K D st tp br mu c S' := by
  obtain ⟨a1, a2, a3, a4, a5⟩ := h
  refine ⟨fun k p hk hp => ?_, fun k hk => ?_, fun d hd => ?_, a4, a5⟩
  · obtain ⟨q1, q2, q3⟩ := a1 k p hk hp
    exact ⟨q1, by rw [h1 k p hk]; exact q2, by rw [h3]; exact q3⟩
  · rw [h2]; exact a2 k hk
  · rw [h2]; exact a3 d hd
section Least
variable {n m K D st tp : Nat} {br mu : Nat → Nat → Prop} {c : Nat → Nat → Nat} {w : Nat}
/-- a depth behind which a row is free -/
def Cx (n m K D st : Nat) (br mu : Nat → Nat → Prop) (c : Nat → Nat → Nat) (w : Nat) (r : Nat → Nat) (p x : Nat) : Prop :=
  (p = 0 ∨ May st br (r (p - 1)) x) ∧ cn (fun k => (∀ i, i < 48 → (rb p r i ∨ i = p * 8 + x) → rb n (c k) i) ∧ mk (FitR mu c n K (c k)) D = w) K < wy m n w (May st br) (fun p x => mk (fun d => Held mu c K d p x) D) (n - 1 - p) x (mk (fun d => (∀ i, i < p → Held mu c K d i (r i)) ∧ Held mu c K d p x) D)
theorem rb_push {p x : Nat} {r : Nat → Nat} (hx : x < 8) (i : Nat) : (rb p r i ∨ i = p * 8 + x) ↔ rb (p + 1) (up r p x) i := by
  unfold rb
  constructor
  · rintro (⟨h1, h2⟩ | h1)
    · exact ⟨by omega, by rw [up_n (by omega)]; exact h2⟩
    · subst h1
      rw [show (p * 8 + x) / 8 = p by omega, up_s]; exact ⟨by omega, by omega⟩
  · rintro ⟨h1, h2⟩
    rcases Nat.lt_or_ge (i / 8) p with h3 | h3
    · rw [up_n (by omega)] at h2; exact Or.inl ⟨h3, h2⟩
    · have h4 : i / 8 = p := by omega
      rw [h4, up_s] at h2
      exact Or.inr (by omega)
theorem Cx_iff (hB : BD n m K D st tp) {S : SS} (hF : FP n m K D st tp br mu c S) {r : Nat → Nat} {p x : Nat} (hp : p < n) (hr : ∀ i, i < p → r i < m) (hl : ∀ i, i + 1 < p → May st br (r i) (r (i + 1))) (hx : x < m) :
    Cx n m K D st br mu c w r p x ↔ ∃ R', R' < m ^ (n - 1 - p) ∧ ZR n m K D st br mu c w ((nm m r p * m + x) * m ^ (n - 1 - p) + R') := by
  obtain ⟨b1, b2, b3, b4, b5, b6, b7, b8, b9⟩ := hB
  have hr' : ∀ i, i ≤ p → up r p x i < m := fun i hi => by
    rcases Nat.lt_or_ge i p with h | h
    · rw [up_n (by omega)]; exact hr i h
    · have : i = p := by omega
      subst this
      rw [up_s]; exact hx
  have hnm : nm m (up r p x) (p + 1) = nm m r p * m + x := by
    show nm m (up r p x) p * m + up r p x p = _
    rw [up_s, nm_c (s := r) (fun i hi => up_n (by omega))]
  have hq : p + (n - 1 - p) + 1 = n := by omega
  constructor
  · rintro ⟨h1, h2⟩
    have hl' : ∀ i, i + 1 ≤ p → May st br (up r p x i) (up r p x (i + 1)) := fun i hi => by
      rcases Nat.lt_or_ge (i + 1) p with h | h
      · rw [up_n (by omega), up_n (by omega)]; exact hl i h
      · have : i + 1 = p := by omega
        rw [up_n (by omega), this, up_s]
        rcases h1 with h1 | h1
        · omega
        · rw [show p - 1 = i by omega] at h1; exact h1
    have hpc := pre_count (n := n) (m := m) (K := K) (D := D) (w := w) (may := May st br) (H := fun d p x => Held mu c K d p x) (c := c) (by omega) (fun k p hk hp => (hF.1 k p hk hp).1) (fun k p hk hp => hF.2.2.2.1 k p hk hp) hF.2.2.2.2 hq hr' hl'
    have e1 : cn (fun k => (∀ i, i < 48 → (rb p r i ∨ i = p * 8 + x) → rb n (c k) i) ∧ mk (FitR mu c n K (c k)) D = w) K = cn (fun k => (∀ i, i ≤ p → c k i = up r p x i) ∧ mk (fun d => ∀ p, p < n → Held mu c K d p (c k p)) D = w) K := by
      apply cn_c
      intro k hk
      have e : (∀ i, i < 48 → (rb p r i ∨ i = p * 8 + x) → rb n (c k) i) ↔ ∀ i, i ≤ p → c k i = up r p x i := by
        have e0 : (∀ i, i < 48 → (rb p r i ∨ i = p * 8 + x) → rb n (c k) i) ↔ ∀ i, i < 48 → rb (p + 1) (up r p x) i → rb n (c k) i := by
          constructor
          · intro q i hi h; exact q i hi ((rb_push (by omega) i).mpr h)
          · intro q i hi h; exact q i hi ((rb_push (by omega) i).mp h)
        rw [e0, rb_in (by omega) (fun i hi => by have := hr' i (by omega); omega)]
        constructor
        · intro q i hi
          have h3 := (q i (by omega)).2
          have := hr' i hi
          rw [show (8 * i + up r p x i) / 8 = i by omega] at h3
          omega
        · intro q i hi
          have h3 := q i (by omega)
          have := hr' i (by omega)
          unfold rb
          rw [show (8 * i + up r p x i) / 8 = i by omega]
          exact ⟨by omega, by omega⟩
      rw [e]
      exact Iff.rfl
    have e2 : mk (fun d => (∀ i, i < p → Held mu c K d i (r i)) ∧ Held mu c K d p x) D = mk (fun d => ∀ i, i ≤ p → Held mu c K d i (up r p x i)) D := by
      apply mk_c
      intro d _
      constructor
      · rintro ⟨q1, q2⟩ i hi
        rcases Nat.lt_or_ge i p with h | h
        · rw [up_n (by omega)]; exact q1 i h
        · have : i = p := by omega
          subst this
          rw [up_s]; exact q2
      · intro q
        refine ⟨fun i hi => ?_, ?_⟩
        · have := q i (by omega)
          rw [up_n (by omega)] at this
          exact this
        · have := q p (Nat.le_refl p)
          rw [up_s] at this
          exact this
    rw [e1, e2] at h2
    rw [up_s] at hpc
    have h3 := cn_pos.mp (show 0 < cn (fun R' => Full n m D w (May st br) (fun d p x => Held mu c K d p x) (dg m n (nm m (up r p x) (p + 1) * m ^ (n - 1 - p) + R')) ∧ ∀ k, k < K → ¬ nm m (c k) n = nm m (up r p x) (p + 1) * m ^ (n - 1 - p) + R') (m ^ (n - 1 - p)) by omega)
    obtain ⟨R', h4, h5⟩ := h3
    rw [hnm] at h5
    exact ⟨R', h4, h5⟩
  · rintro ⟨R', h4, h5⟩
    have hpw : 0 < m ^ (n - 1 - p) := Nat.pow_pos (by omega)
    have hlt : nm m (up r p x) (p + 1) < m ^ (p + 1) := nm_lt (fun i hi => hr' i (by omega))
    have h3 : (nm m (up r p x) (p + 1) + 1) * m ^ (n - 1 - p) ≤ m ^ (p + 1) * m ^ (n - 1 - p) := Nat.mul_le_mul_right _ hlt
    rw [Nat.add_mul, Nat.one_mul, ← Nat.pow_add, show p + 1 + (n - 1 - p) = n by omega, hnm] at h3
    have hRn : (nm m r p * m + x) * m ^ (n - 1 - p) + R' < m ^ n := by omega
    have hdg : ∀ i, i < p + 1 → dg m n ((nm m r p * m + x) * m ^ (n - 1 - p) + R') i = up r p x i := (pre_eq (by omega) hRn (by omega) (fun i hi => hr' i (by omega))).mpr (by
      rw [show n - (p + 1) = n - 1 - p by omega, hnm, Nat.mul_comm, Nat.mul_add_div hpw, Nat.div_eq_of_lt h4, Nat.add_zero])
    have h1 : p = 0 ∨ May st br (r (p - 1)) x := by
      rcases Nat.eq_zero_or_pos p with h | h
      · exact Or.inl h
      · have h6 := h5.1.1 (p - 1) (by omega)
        rw [hdg (p - 1) (by omega), show p - 1 + 1 = p by omega, hdg p (by omega), up_s, up_n (by omega)] at h6
        exact Or.inr h6
    refine ⟨h1, ?_⟩
    have hl' : ∀ i, i + 1 ≤ p → May st br (up r p x i) (up r p x (i + 1)) := fun i hi => by
      rcases Nat.lt_or_ge (i + 1) p with h | h
      · rw [up_n (by omega), up_n (by omega)]; exact hl i h
      · have : i + 1 = p := by omega
        rw [up_n (by omega), this, up_s]
        rcases h1 with h1 | h1
        · omega
        · rw [show p - 1 = i by omega] at h1; exact h1
    have hpc := pre_count (n := n) (m := m) (K := K) (D := D) (w := w) (may := May st br) (H := fun d p x => Held mu c K d p x) (c := c) (by omega) (fun k p hk hp => (hF.1 k p hk hp).1) (fun k p hk hp => hF.2.2.2.1 k p hk hp) hF.2.2.2.2 hq hr' hl'
    have e1 : cn (fun k => (∀ i, i < 48 → (rb p r i ∨ i = p * 8 + x) → rb n (c k) i) ∧ mk (FitR mu c n K (c k)) D = w) K = cn (fun k => (∀ i, i ≤ p → c k i = up r p x i) ∧ mk (fun d => ∀ p, p < n → Held mu c K d p (c k p)) D = w) K := by
      apply cn_c
      intro k hk
      have e : (∀ i, i < 48 → (rb p r i ∨ i = p * 8 + x) → rb n (c k) i) ↔ ∀ i, i ≤ p → c k i = up r p x i := by
        have e0 : (∀ i, i < 48 → (rb p r i ∨ i = p * 8 + x) → rb n (c k) i) ↔ ∀ i, i < 48 → rb (p + 1) (up r p x) i → rb n (c k) i := by
          constructor
          · intro q i hi h; exact q i hi ((rb_push (by omega) i).mpr h)
          · intro q i hi h; exact q i hi ((rb_push (by omega) i).mp h)
        rw [e0, rb_in (by omega) (fun i hi => by have := hr' i (by omega); omega)]
        constructor
        · intro q i hi
          have h3 := (q i (by omega)).2
          have := hr' i hi
          rw [show (8 * i + up r p x i) / 8 = i by omega] at h3
          omega
        · intro q i hi
          have h3 := q i (by omega)
          have := hr' i (by omega)
          unfold rb
          rw [show (8 * i + up r p x i) / 8 = i by omega]
          exact ⟨by omega, by omega⟩
      rw [e]
      exact Iff.rfl
    have e2 : mk (fun d => (∀ i, i < p → Held mu c K d i (r i)) ∧ Held mu c K d p x) D = mk (fun d => ∀ i, i ≤ p → Held mu c K d i (up r p x i)) D := by
      apply mk_c
      intro d _
      constructor
      · rintro ⟨q1, q2⟩ i hi
        rcases Nat.lt_or_ge i p with h | h
        · rw [up_n (by omega)]; exact q1 i h
        · have : i = p := by omega
          subst this
          rw [up_s]; exact q2
      · intro q
        refine ⟨fun i hi => ?_, ?_⟩
        · have := q i (by omega)
          rw [up_n (by omega)] at this
          exact this
        · have := q p (Nat.le_refl p)
          rw [up_s] at this
          exact this
    rw [e1, e2]
    rw [up_s, hnm] at hpc
    have h6 := (cn_pos (n := m ^ (n - 1 - p)) (P := fun R' => Full n m D w (May st br) (fun d p x => Held mu c K d p x) (dg m n ((nm m r p * m + x) * m ^ (n - 1 - p) + R')) ∧ ∀ k, k < K → ¬ nm m (c k) n = (nm m r p * m + x) * m ^ (n - 1 - p) + R')).mpr ⟨R', h4, h5⟩
    omega
theorem c_ld_L (hB : BD n m K D st tp) {S : SS} (hR : CQ n m K D st tp br mu S) (hF : FP n m K D st tp br mu c S) (hw : w < 64) (hW : PW n m K D st w br mu c 0 S) {r : Nat → Nat} {p : Nat} (hp : p < n) (hr : ∀ i, i < p → r i < m) {x2 : Int32} (hx2 : (p = 0 ∧ x2 = -1) ∨ (0 < p ∧ x2 = nI (r (p - 1)))) : ∀ t N k, k + t = m → t < N → (∀ x, x < k → ¬ Cx n m K D st br mu c w r p x) →
    ((∃ x, x < m ∧ Cx n m K D st br mu c w r p x ∧ (∀ x', x' < x → ¬ Cx n m K D st br mu c w r p x') ∧ f_Rows_leastDepth_L3 (nI p) x2 (nI (mk (fun d => ∀ i, i < p → Held mu c K d i (r i)) D)) (lN (mk (rb p r) 48)) (nI w) N (nI k) S = some (.inl (nI x))) ∨
     ((∀ x, x < m → ¬ Cx n m K D st br mu c w r p x) ∧ f_Rows_leastDepth_L3 (nI p) x2 (nI (mk (fun d => ∀ i, i < p → Held mu c K d i (r i)) D)) (lN (mk (rb p r) 48)) (nI w) N (nI k) S = some (.inr ()))) := by
  have hB' := hB
  have hR' := hR
  obtain ⟨b1, b2, b3, b4, b5, b6, b7, b8, b9⟩ := hB
  obtain ⟨r1, r2, r3, r4, r5, r6, r7, r8⟩ := hR
  have hmn : m ^ (n - 1 - p) ≤ 262144 := by
    calc m ^ (n - 1 - p) ≤ 8 ^ (n - 1 - p) := Nat.pow_le_pow_left b4 _
      _ ≤ 8 ^ 6 := Nat.pow_le_pow_right (by omega) (by omega)
      _ = 262144 := by decide
  intro t
  induction t with
  | zero =>
    intro N k hk hN; obtain ⟨N, rfl⟩ : ∃ M, N = M + 1 := ⟨N - 1, by omega⟩
    intro hno
    have : k = m := by omega
    subst this
    refine Or.inr ⟨hno, ?_⟩
    rw [f_Rows_leastDepth_L3_s]
    simp (disch := omega) only [q_le_t, q_le_f, q_lt_t, q_lt_f, q_eq_t, q_eq_f, q_oob, q_cl, q_mul, nI_add, z0, z1, z2, z4, z6, z7, z8, z64, z512, zT, if_b0, if_b1, if_b01, ite_true, ite_false, ↓reduceIte, Option.bind_some, Sum.elim_inl, Sum.elim_inr, r2]
  | succ t ih =>
    intro N k hk hN; obtain ⟨N, rfl⟩ : ∃ M, N = M + 1 := ⟨N - 1, by omega⟩
    intro hno
    have eh := c_dH hB' hR' hF hp (show k < 8 by omega)
    have eb : f_Board_bit (nI p) (nI k) S = some (lN (mk (fun i => i = p * 8 + k) 48)) := by
      rw [f_Board_bit_s, z8, l_bit (N := 48) (by omega) (by omega)]
    have ek := c_ck hB' hR' hF (P := fun i => rb p r i ∨ i = p * 8 + k) hw
    have hmlt := mk_lt (fun d => (∀ i, i < p → Held mu c K d i (r i)) ∧ Held mu c K d p k) D
    have hD64 : 2 ^ D ≤ 2 ^ 6 := Nat.pow_le_pow_right (by omega) b6
    have ew := hW p (Nat.zero_le p) hp k (mk (fun d => (∀ i, i < p → Held mu c K d i (r i)) ∧ Held mu c K d p k) D) (by omega) (by omega)
    have hle := cn_le (fun k' => (∀ i, i < 48 → (rb p r i ∨ i = p * 8 + k) → rb n (c k') i) ∧ mk (FitR mu c n K (c k')) D = w) K
    have hwle := wy_le (m := m) (n := n) (w := w) (may := May st br) (hold := fun p x => mk (fun d => Held mu c K d p x) D) (show 0 < m by omega) (n - 1 - p) k (mk (fun d => (∀ i, i < p → Held mu c K d i (r i)) ∧ Held mu c K d p k) D)
    have next : ¬ Cx n m K D st br mu c w r p k → _ := fun hn => ih N (k + 1) (by omega) (by omega) (all_s.mpr ⟨hno, hn⟩)
    rw [f_Rows_leastDepth_L3_s]
    rcases hx2 with ⟨hp0, hx2⟩ | ⟨hp0, hx2⟩
    · rw [hx2] at next ⊢
      rw [if_pos (show (-1 : Int32) = -1 from rfl)]
      simp (disch := omega) only [q_le_t, q_le_f, q_lt_t, q_lt_f, q_eq_t, q_eq_f, q_oob, q_cl, q_mul, nI_add, z0, z1, z2, z4, z6, z7, z8, z64, z512, zT, if_b0, if_b1, if_b01, ite_true, ite_false, ↓reduceIte, Option.bind_some, Sum.elim_inl, Sum.elim_inr, r2, eh, eb, l_or, ek, i_and, f_Rows_state_s, ew]
      rcases Nat.lt_or_ge (cn (fun k' => (∀ i, i < 48 → (rb p r i ∨ i = p * 8 + k) → rb n (c k') i) ∧ mk (FitR mu c n K (c k')) D = w) K) (wy m n w (May st br) (fun p x => mk (fun d => Held mu c K d p x) D) (n - 1 - p) k (mk (fun d => (∀ i, i < p → Held mu c K d i (r i)) ∧ Held mu c K d p k) D)) with g | g
      · simp (disch := omega) only [q_le_t, q_le_f, q_lt_t, q_lt_f, q_eq_t, q_eq_f, q_oob, q_cl, q_mul, nI_add, z0, z1, z2, z4, z6, z7, z8, z64, z512, zT, if_b0, if_b1, if_b01, ite_true, ite_false, ↓reduceIte, Option.bind_some, Sum.elim_inl, Sum.elim_inr]
        exact Or.inl ⟨k, by omega, ⟨Or.inl hp0, g⟩, hno, rfl⟩
      · simp (disch := omega) only [q_le_t, q_le_f, q_lt_t, q_lt_f, q_eq_t, q_eq_f, q_oob, q_cl, q_mul, nI_add, z0, z1, z2, z4, z6, z7, z8, z64, z512, zT, if_b0, if_b1, if_b01, ite_true, ite_false, ↓reduceIte, Option.bind_some, Sum.elim_inl, Sum.elim_inr]
        exact next (fun q => by have := q.2; omega)
    · have em := c_may hB' hR' (show r (p - 1) < 8 by have := hr (p - 1) (by omega); omega) (show k < 8 by omega)
      have hr8 := hr (p - 1) (by omega)
      rw [hx2] at next ⊢
      rw [if_neg (q_neg (show r (p - 1) < 2147483648 by omega))]
      simp (disch := omega) only [q_le_t, q_le_f, q_lt_t, q_lt_f, q_eq_t, q_eq_f, q_oob, q_cl, q_mul, nI_add, z0, z1, z2, z4, z6, z7, z8, z64, z512, zT, if_b0, if_b1, if_b01, ite_true, ite_false, ↓reduceIte, Option.bind_some, Sum.elim_inl, Sum.elim_inr, r2, em, eh, eb, l_or, ek, i_and, f_Rows_state_s, ew]
      rcases Classical.em (May st br (r (p - 1)) k) with g1 | g1
      · rw [cif_t g1]
        rcases Nat.lt_or_ge (cn (fun k' => (∀ i, i < 48 → (rb p r i ∨ i = p * 8 + k) → rb n (c k') i) ∧ mk (FitR mu c n K (c k')) D = w) K) (wy m n w (May st br) (fun p x => mk (fun d => Held mu c K d p x) D) (n - 1 - p) k (mk (fun d => (∀ i, i < p → Held mu c K d i (r i)) ∧ Held mu c K d p k) D)) with g | g
        · simp (disch := omega) only [q_le_t, q_le_f, q_lt_t, q_lt_f, q_eq_t, q_eq_f, q_oob, q_cl, q_mul, nI_add, z0, z1, z2, z4, z6, z7, z8, z64, z512, zT, if_b0, if_b1, if_b01, ite_true, ite_false, ↓reduceIte, Option.bind_some, Sum.elim_inl, Sum.elim_inr]
          exact Or.inl ⟨k, by omega, ⟨Or.inr g1, g⟩, hno, rfl⟩
        · simp (disch := omega) only [q_le_t, q_le_f, q_lt_t, q_lt_f, q_eq_t, q_eq_f, q_oob, q_cl, q_mul, nI_add, z0, z1, z2, z4, z6, z7, z8, z64, z512, zT, if_b0, if_b1, if_b01, ite_true, ite_false, ↓reduceIte, Option.bind_some, Sum.elim_inl, Sum.elim_inr]
          exact next (fun q => by have := q.2; omega)
      · rw [cif_f g1]
        exact next (fun q => by
          rcases q.1 with q | q
          · omega
          · exact g1 q)
end Least
