/-! left and add of the reference -/
def ZR (n m K D st : Nat) (br mu : Nat → Nat → Prop) (c : Nat → Nat → Nat) (w R : Nat) : Prop := Full n m D w (May st br) (fun d p x => Held mu c K d p x) (dg m n R) ∧ ∀ k, k < K → ¬ nm m (c k) n = R
section RLeft
variable {n m K D st tp : Nat} {br mu : Nat → Nat → Prop} {c : Nat → Nat → Nat} {w : Nat}
theorem ZR_iff (hm : 0 < m) {R : Nat} (hR : R < m ^ n) (hc : ∀ k p, k < K → p < n → c k p < m) : ZR n m K D st br mu c w R ↔ ((∀ p, p + 1 < n → May st br (dg m n R p) (dg m n R (p + 1))) ∧ ∀ i, i < K → ¬ ∀ p, p < n → c i p = dg m n R p) ∧ mk (FitR mu c n K (dg m n R)) D = w := by
  unfold ZR Full
  constructor
  · rintro ⟨⟨q1, q2⟩, q3⟩
    exact ⟨⟨q1, fun i hi q => q3 i hi ((all_eq hm hR (fun p hp => hc i p hi hp)).mp q)⟩, q2⟩
  · rintro ⟨⟨q1, q3⟩, q2⟩
    exact ⟨⟨q1, q2⟩, fun i hi q => q3 i hi ((all_eq hm hR (fun p hp => hc i p hi hp)).mpr q)⟩
theorem r_left_L (hB : BD n m K D st tp) (hcm : ∀ k p, k < K → p < n → c k p < m) : ∀ t N R (S : SS), R + t = m ^ n → t < N → RQ n m K D st tp br mu S → CU n K c S → S.1 33 9 = nI 1 →
    ∃ S', Fr E37 S S' ∧ f_RM_left_L20 N (nI (cn (ZR n m K D st br mu c 0) R)) (nI R) S = some (nI (cn (ZR n m K D st br mu c 0) (m ^ n)), S') := by
  have hB' := hB
  have hmn := mn_le hB
  obtain ⟨b1, b2, b3, b4, b5, b6, b7, b8, b9⟩ := hB
  have hD64 : 2 ^ D ≤ 2 ^ 6 := Nat.pow_le_pow_right (by omega) b6
  intro t
  induction t with
  | zero =>
    intro N R S hRt hN hR hc h9
    obtain ⟨N, rfl⟩ : ∃ M, N = M + 1 := ⟨N - 1, by omega⟩
    have : R = m ^ n := by omega
    subst this
    refine ⟨S, Fr_rfl, ?_⟩
    rw [f_RM_left_L20_s, r_rows hB' hR]
    simp (disch := omega) only [q_le_t, q_le_f, q_lt_t, q_lt_f, q_eq_t, q_eq_f, q_oob, q_cl, q_mul, nI_add, z0, z1, z2, z4, z6, z7, z8, z64, z512, zT, if_b0, if_b1, if_b01, ite_true, ite_false, ↓reduceIte, Option.bind_some, Sum.elim_inl, Sum.elim_inr]
  | succ t ih =>
    intro N R S hRt hN hR hc h9
    obtain ⟨N, rfl⟩ : ∃ M, N = M + 1 := ⟨N - 1, by omega⟩
    obtain ⟨S1, j1, j2, j3⟩ := r_free hB' hR hc (show R < 2147483648 by omega)
    have hR1 := RQ_37 j1 hR
    have hc1 := CU_37 j1 hc
    have e4 := r_dor hB' hR1 hc1 j2
    have h91 : S1.1 33 9 = nI 1 := by rw [j1.2 33 9 (by unfold E37; omega)]; exact h9
    obtain ⟨S', i1, i2⟩ := ih N (R + 1) S1 (by omega) (by omega) hR1 hc1 h91
    have hlt := mk_lt (FitR mu c n K (dg m n R)) D
    have hz := ZR_iff (st := st) (br := br) (mu := mu) (D := D) (w := 0) (show 0 < m by omega) (show R < m ^ n by omega) hcm
    refine ⟨S', Fr_tr j1 i1, ?_⟩
    rw [← i2]
    show _ = f_RM_left_L20 N (nI (cn (ZR n m K D st br mu c 0) R + bN (ZR n m K D st br mu c 0 R))) (nI (R + 1)) S1
    rw [f_RM_left_L20_s, r_rows hB' hR]
    simp (disch := omega) only [q_le_t, q_le_f, q_lt_t, q_lt_f, q_eq_t, q_eq_f, q_oob, q_cl, q_mul, nI_add, z0, z1, z2, z4, z6, z7, z8, z64, z512, zT, if_b0, if_b1, if_b01, ite_true, ite_false, ↓reduceIte, Option.bind_some, Sum.elim_inl, Sum.elim_inr, h9, j3, e4]
    rcases Classical.em ((∀ p, p + 1 < n → May st br (dg m n R p) (dg m n R (p + 1))) ∧ ∀ i, i < K → ¬ ∀ p, p < n → c i p = dg m n R p) with h | h
    · rw [cif_t h]
      by_cases g : mk (FitR mu c n K (dg m n R)) D = 0
      · rw [if_pos (by rw [g]), bN_t (hz.mpr ⟨h, g⟩)]
      · rw [if_neg (fun q => g ((nI_eq (by omega) (by omega)).mp q)), bN_f (fun q => g (hz.mp q).2)]
    · rw [cif_f h, bN_f (fun q => h (hz.mp q).1)]
/-- the row goes behind the last key's -/
theorem r_cp_L (hB : BD n m K D st tp) (hK : K < 8) {r : Nat → Nat} {x : Int32} {S0 : SS} : ∀ t N k (S : SS), k + t = n → t < N → RQ n m K D st tp br mu S → (∀ p, p < n → S.1 37 p = nI (r p)) → Fr (fun a b => a = 36 ∧ n * K ≤ b) S0 S → (∀ p, p < k → S.1 36 (n * K + p) = nI (r p)) →
    ∃ S', Fr (fun a b => a = 36 ∧ n * K ≤ b) S0 S' ∧ (∀ p, p < n → S'.1 36 (n * K + p) = nI (r p)) ∧ f_RM_add_L83 x N (nI k) S = some S' := by
  obtain ⟨b1, b2, b3, b4, b5, b6, b7, b8, b9⟩ := hB
  intro t
  induction t with
  | zero =>
    intro N k S hk hN hR hr hF hd
    obtain ⟨N, rfl⟩ : ∃ M, N = M + 1 := ⟨N - 1, by omega⟩
    have : k = n := by omega
    subst this
    have r1 := hR.1
    refine ⟨S, hF, hd, ?_⟩
    rw [f_RM_add_L83_s]
    simp (disch := omega) only [q_le_t, q_le_f, q_lt_t, q_lt_f, q_eq_t, q_eq_f, q_oob, q_cl, q_mul, nI_add, z0, z1, z2, z4, z6, z7, z8, z64, z512, zT, if_b0, if_b1, if_b01, ite_true, ite_false, ↓reduceIte, Option.bind_some, Sum.elim_inl, Sum.elim_inr, r1]
  | succ t ih =>
    intro N k S hk hN hR hr hF hd
    obtain ⟨N, rfl⟩ : ∃ M, N = M + 1 := ⟨N - 1, by omega⟩
    have r1 := hR.1
    have r3 := hR.2.2.1
    have e := hr k (by omega)
    have g1 := nk_lt b2 hK (show k < n by omega)
    rw [f_RM_add_L83_s]
    simp (disch := omega) only [q_le_t, q_le_f, q_lt_t, q_lt_f, q_eq_t, q_eq_f, q_oob, q_cl, q_mul, nI_add, z0, z1, z2, z4, z6, z7, z8, z64, z512, zT, if_b0, if_b1, if_b01, ite_true, ite_false, ↓reduceIte, Option.bind_some, Sum.elim_inl, Sum.elim_inr, r1, r3, e]
    apply ih N (k + 1) _ (by omega) (by omega) (RQ_f (fun a b q => w_n (by omega)) hR) (fun p hp => by rw [w_n (by omega)]; exact hr p hp) (Fr_tr hF (Fr_w ⟨rfl, by omega⟩))
    intro p hp
    rcases Nat.lt_or_ge p k with h | h
    · rw [w_n (by omega)]; exact hd p h
    · have : p = k := by omega
      subst this
      rw [w_s]
theorem r_mu_L (hK : K < 8) {W : Nat → Prop} {S0 : SS} : ∀ t N k (S : SS), k + t = 6 → t < N → S.1 33 3 = nI K → Fr (fun a b => a = 34 ∧ 6 * K ≤ b ∧ b < 6 * K + 6) S0 S → (∀ d, d < k → S.1 34 (6 * K + d) = bI (W d)) →
    ∃ S', Fr (fun a b => a = 34 ∧ 6 * K ≤ b ∧ b < 6 * K + 6) S0 S' ∧ (∀ d, d < 6 → S'.1 34 (6 * K + d) = bI (W d)) ∧ f_RM_add_L125 (nI (mk W 6)) N (nI k) S = some S' := by
  intro t
  induction t with
  | zero =>
    intro N k S hk hN r3 hF hd
    obtain ⟨N, rfl⟩ : ∃ M, N = M + 1 := ⟨N - 1, by omega⟩
    have : k = 6 := by omega
    subst this
    refine ⟨S, hF, hd, ?_⟩
    rw [f_RM_add_L125_s]
    simp (disch := omega) only [q_le_t, q_le_f, q_lt_t, q_lt_f, q_eq_t, q_eq_f, q_oob, q_cl, q_mul, nI_add, z0, z1, z2, z4, z6, z7, z8, z64, z512, zT, if_b0, if_b1, if_b01, ite_true, ite_false, ↓reduceIte, Option.bind_some, Sum.elim_inl, Sum.elim_inr]
  | succ t ih =>
    intro N k S hk hN r3 hF hd
    obtain ⟨N, rfl⟩ : ∃ M, N = M + 1 := ⟨N - 1, by omega⟩
    have key : ∀ b, b = bI (W k) → ∃ S', Fr (fun a b => a = 34 ∧ 6 * K ≤ b ∧ b < 6 * K + 6) S0 S' ∧ (∀ d, d < 6 → S'.1 34 (6 * K + d) = bI (W d)) ∧ f_RM_add_L125 (nI (mk W 6)) N (nI (k + 1)) (wI S 34 (6 * K + k) b) = some S' := by
      intro b hb
      apply ih N (k + 1) _ (by omega) (by omega) (by rw [w_n (by omega)]; exact r3) (Fr_tr hF (Fr_w ⟨rfl, by omega, by omega⟩))
      intro d hd2
      rcases Nat.lt_or_ge d k with h | h
      · rw [w_n (by omega)]; exact hd d h
      · have : d = k := by omega
        subst this
        rw [w_s, hb]
    rw [f_RM_add_L125_s]
    simp (disch := omega) only [q_le_t, q_le_f, q_lt_t, q_lt_f, q_eq_t, q_eq_f, q_oob, q_cl, q_mul, nI_add, z0, z1, z2, z4, z6, z7, z8, z64, z512, zT, if_b0, if_b1, if_b01, ite_true, ite_false, ↓reduceIte, Option.bind_some, Sum.elim_inl, Sum.elim_inr, r3, if_bit1, nar0, nar1]
    rcases Classical.em (W k) with h | h
    · rw [cif_t h]; exact key _ (by rw [bI_t h])
    · rw [cif_f h]; exact key _ (by rw [bI_f h])
theorem r_add_L (hB : BD n m K D st tp) (hK : K < 8) (hcm : ∀ k p, k < K → p < n → c k p < m) {W : Nat → Prop} (hW : ∀ d, W d → d < D) : ∀ t N R (S : SS), R + t = m ^ n → t < N → RQ n m K D st tp br mu S → CU n K c S → (∀ R', R' < R → ¬ ZR n m K D st br mu c (mk W D) R') →
    (∃ S', Fr E37 S S' ∧ (∀ R', R' < m ^ n → ¬ ZR n m K D st br mu c (mk W D) R') ∧ f_RM_add_L59 (nI (mk W D)) (nI (m ^ n)) N (nI R) S = some (.inr S')) ∨
    (∃ S' R1, R1 < m ^ n ∧ ZR n m K D st br mu c (mk W D) R1 ∧ (∀ R', R' < R1 → ¬ ZR n m K D st br mu c (mk W D) R') ∧ f_RM_add_L59 (nI (mk W D)) (nI (m ^ n)) N (nI R) S = some (.inl (nI K, S')) ∧
      Fr (fun a b => a = 37 ∨ (a = 36 ∧ n * K ≤ b) ∨ (a = 34 ∧ 6 * K ≤ b ∧ b < 6 * K + 6) ∨ (a = 33 ∧ b = 3)) S S' ∧ S'.1 33 3 = nI (K + 1) ∧ (∀ p, p < n → S'.1 36 (n * K + p) = nI (dg m n R1 p)) ∧ (∀ d, d < 6 → S'.1 34 (6 * K + d) = bI (W d))) := by
  have hB' := hB
  have hmn := mn_le hB
  obtain ⟨b1, b2, b3, b4, b5, b6, b7, b8, b9⟩ := hB
  have hD64 : 2 ^ D ≤ 2 ^ 6 := Nat.pow_le_pow_right (by omega) b6
  intro t
  induction t with
  | zero =>
    intro N R S hRt hN hR hc hno
    obtain ⟨N, rfl⟩ : ∃ M, N = M + 1 := ⟨N - 1, by omega⟩
    have : R = m ^ n := by omega
    subst this
    refine Or.inl ⟨S, Fr_rfl, hno, ?_⟩
    rw [f_RM_add_L59_s]
    simp (disch := omega) only [q_le_t, q_le_f, q_lt_t, q_lt_f, q_eq_t, q_eq_f, q_oob, q_cl, q_mul, nI_add, z0, z1, z2, z4, z6, z7, z8, z64, z512, zT, if_b0, if_b1, if_b01, ite_true, ite_false, ↓reduceIte, Option.bind_some, Sum.elim_inl, Sum.elim_inr]
  | succ t ih =>
    intro N R S hRt hN hR hc hno
    obtain ⟨N, rfl⟩ : ∃ M, N = M + 1 := ⟨N - 1, by omega⟩
    obtain ⟨S1, j1, j2, j3⟩ := r_free hB' hR hc (show R < 2147483648 by omega)
    have hR1 := RQ_37 j1 hR
    have hc1 := CU_37 j1 hc
    have e4 := r_dor hB' hR1 hc1 j2
    have hlt := mk_lt (FitR mu c n K (dg m n R)) D
    have hlt2 := mk_lt W D
    have hz := ZR_iff (st := st) (br := br) (mu := mu) (D := D) (w := mk W D) (show 0 < m by omega) (show R < m ^ n by omega) hcm
    have next : ¬ ZR n m K D st br mu c (mk W D) R → f_RM_add_L59 (nI (mk W D)) (nI (m ^ n)) (N + 1) (nI R) S = f_RM_add_L59 (nI (mk W D)) (nI (m ^ n)) N (nI (R + 1)) S1 → _ := fun hn e => by
      have h5 := ih N (R + 1) S1 (by omega) (by omega) hR1 hc1 (all_s.mpr ⟨hno, hn⟩)
      rw [← e] at h5
      exact h5
    have lift : ((∃ S', Fr E37 S1 S' ∧ (∀ R', R' < m ^ n → ¬ ZR n m K D st br mu c (mk W D) R') ∧ f_RM_add_L59 (nI (mk W D)) (nI (m ^ n)) (N + 1) (nI R) S = some (.inr S')) ∨
        (∃ S' R1, R1 < m ^ n ∧ ZR n m K D st br mu c (mk W D) R1 ∧ (∀ R', R' < R1 → ¬ ZR n m K D st br mu c (mk W D) R') ∧ f_RM_add_L59 (nI (mk W D)) (nI (m ^ n)) (N + 1) (nI R) S = some (.inl (nI K, S')) ∧
          Fr (fun a b => a = 37 ∨ (a = 36 ∧ n * K ≤ b) ∨ (a = 34 ∧ 6 * K ≤ b ∧ b < 6 * K + 6) ∨ (a = 33 ∧ b = 3)) S1 S' ∧ S'.1 33 3 = nI (K + 1) ∧ (∀ p, p < n → S'.1 36 (n * K + p) = nI (dg m n R1 p)) ∧ (∀ d, d < 6 → S'.1 34 (6 * K + d) = bI (W d)))) →
        ((∃ S', Fr E37 S S' ∧ (∀ R', R' < m ^ n → ¬ ZR n m K D st br mu c (mk W D) R') ∧ f_RM_add_L59 (nI (mk W D)) (nI (m ^ n)) (N + 1) (nI R) S = some (.inr S')) ∨
        (∃ S' R1, R1 < m ^ n ∧ ZR n m K D st br mu c (mk W D) R1 ∧ (∀ R', R' < R1 → ¬ ZR n m K D st br mu c (mk W D) R') ∧ f_RM_add_L59 (nI (mk W D)) (nI (m ^ n)) (N + 1) (nI R) S = some (.inl (nI K, S')) ∧
          Fr (fun a b => a = 37 ∨ (a = 36 ∧ n * K ≤ b) ∨ (a = 34 ∧ 6 * K ≤ b ∧ b < 6 * K + 6) ∨ (a = 33 ∧ b = 3)) S S' ∧ S'.1 33 3 = nI (K + 1) ∧ (∀ p, p < n → S'.1 36 (n * K + p) = nI (dg m n R1 p)) ∧ (∀ d, d < 6 → S'.1 34 (6 * K + d) = bI (W d)))) := by
      rintro (⟨S', k1, k2⟩ | ⟨S', R1, k1, k2, k3, k4, k5, k6⟩)
      · exact Or.inl ⟨S', Fr_tr j1 k1, k2⟩
      · exact Or.inr ⟨S', R1, k1, k2, k3, k4, Fr_tr ⟨j1.1, fun a b q => j1.2 a b (fun h => q (Or.inl h))⟩ k5, k6⟩
    rcases Classical.em ((∀ p, p + 1 < n → May st br (dg m n R p) (dg m n R (p + 1))) ∧ ∀ i, i < K → ¬ ∀ p, p < n → c i p = dg m n R p) with h | h
    · by_cases g : mk (FitR mu c n K (dg m n R)) D = mk W D
      · refine Or.inr ?_
        obtain ⟨S2, k1, k2, k3⟩ := r_cp_L (x := nI (mk W D)) hB' hK n FU 0 S1 (by omega) (by rw [FU_eq]; omega) hR1 (fun p hp => (j2 p hp).1) Fr_rfl (fun p hp => absurd hp (by omega))
        have r32 : S2.1 33 3 = nI K := by rw [k1.2 33 3 (by omega)]; exact hR1.2.2.1
        obtain ⟨S3, l1, l2, l3⟩ := r_mu_L hK (W := W) 6 FU 0 S2 (by omega) (by rw [FU_eq]; omega) r32 Fr_rfl (fun p hp => absurd hp (by omega))
        have r33 : S3.1 33 3 = nI K := by rw [l1.2 33 3 (by omega)]; exact r32
        rw [mk_short b6 hW] at l3
        have hF : Fr (fun a b => a = 37 ∨ (a = 36 ∧ n * K ≤ b) ∨ (a = 34 ∧ 6 * K ≤ b ∧ b < 6 * K + 6) ∨ (a = 33 ∧ b = 3)) S (wI S3 33 3 (nI (K + 1))) :=
          Fr_tr ⟨j1.1, fun a b q => j1.2 a b (fun h => q (Or.inl h))⟩ (Fr_tr ⟨k1.1, fun a b q => k1.2 a b (fun h => q (Or.inr (Or.inl h)))⟩ (Fr_tr ⟨l1.1, fun a b q => l1.2 a b (fun h => q (Or.inr (Or.inr (Or.inl h))))⟩ (Fr_w (Or.inr (Or.inr (Or.inr ⟨rfl, rfl⟩))))))
        refine ⟨wI S3 33 3 (nI (K + 1)), R, by omega, hz.mpr ⟨h, g⟩, hno, ?_, hF, w_s, fun p hp => ?_, fun d hd => ?_⟩
        · rw [f_RM_add_L59_s]
          simp (disch := omega) only [q_le_t, q_le_f, q_lt_t, q_lt_f, q_eq_t, q_eq_f, q_oob, q_cl, q_mul, nI_add, z0, z1, z2, z4, z6, z7, z8, z64, z512, zT, if_b0, if_b1, if_b01, ite_true, ite_false, ↓reduceIte, Option.bind_some, Sum.elim_inl, Sum.elim_inr, j3, e4, cif_t h, g, k3, l3, r33, q_sub]
          rw [show K + 1 - 1 = K by omega]
        · rw [w_n (by omega), l1.2 36 _ (by omega), k2 p hp]
        · rw [w_n (by omega), l2 d hd]
      · apply lift
        apply next (fun q => g (hz.mp q).2)
        rw [f_RM_add_L59_s]
        simp (disch := omega) only [q_le_t, q_le_f, q_lt_t, q_lt_f, q_eq_t, q_eq_f, q_oob, q_cl, q_mul, nI_add, z0, z1, z2, z4, z6, z7, z8, z64, z512, zT, if_b0, if_b1, if_b01, ite_true, ite_false, ↓reduceIte, Option.bind_some, Sum.elim_inl, Sum.elim_inr, j3, e4, cif_t h]
    · apply lift
      apply next (fun q => h (hz.mp q).1)
      rw [f_RM_add_L59_s]
      simp (disch := omega) only [q_le_t, q_le_f, q_lt_t, q_lt_f, q_eq_t, q_eq_f, q_oob, q_cl, q_mul, nI_add, z0, z1, z2, z4, z6, z7, z8, z64, z512, zT, if_b0, if_b1, if_b01, ite_true, ite_false, ↓reduceIte, Option.bind_some, Sum.elim_inl, Sum.elim_inr, j3, e4]
      rw [cif_f h]
end RLeft
