/-! left -/
theorem FU_s : ∃ M, FU = M + 1 := ⟨2147483647, rfl⟩
theorem c_left {n m K D st tp : Nat} {br mu : Nat → Nat → Prop} {c : Nat → Nat → Nat} (hB : BD n m K D st tp) {S : SS} (hR : CQ n m K D st tp br mu S) (hF : FP n m K D st tp br mu c S) :
    ∃ S', Fr EW S S' ∧ f_Rows_countFree (nI 0) S = some (nI (cn (ZR n m K D st br mu c 0) (m ^ n)), S') := by
  have hB' := hB
  obtain ⟨b1, b2, b3, b4, b5, b6, b7, b8, b9⟩ := hB
  obtain ⟨S', i1, i2, i3⟩ := c_ways hB' (w := 0) (by omega) hR hF
  have hR1 := CQ_w i1 hR
  have hF1 := FP_w b5 i1 hF
  have e1 := c_cf_L hB' hR1 hF1 i2 (nI 0) m FU 0 (by omega) (by rw [FU_eq]; omega)
  rw [show sm (fun x => wy m n 0 (May st br) (fun p x => mk (fun d => Held mu c K d p x) D) (n - 1) x (mk (fun d => Held mu c K d 0 x) D)) 0 = 0 from rfl] at e1
  have e2 := c_ck hB' hR1 hF1 (P := fun _ => False) (w := 0) (by omega)
  rw [mk_f] at e2
  have hlc := left_count (n := n) (m := m) (K := K) (D := D) (w := 0) (may := May st br) (H := fun d p x => Held mu c K d p x) (c := c) b1 (by omega) (fun k p hk hp => (hF.1 k p hk hp).1) (fun k p hk hp => hF.2.2.2.1 k p hk hp) hF.2.2.2.2
  have e3 : cn (fun k => (∀ i, i < 48 → False → rb n (c k) i) ∧ mk (FitR mu c n K (c k)) D = 0) K = cn (fun k => mk (fun d => ∀ p, p < n → Held mu c K d p (c k p)) D = 0) K := cn_c (fun k _ => ⟨fun q => q.2, fun q => ⟨fun _ _ h => h.elim, q⟩⟩)
  have e4 : cn (ZR n m K D st br mu c 0) (m ^ n) = cn (fun R => Full n m D 0 (May st br) (fun d p x => Held mu c K d p x) (dg m n R) ∧ ∀ k, k < K → ¬ nm m (c k) n = R) (m ^ n) := rfl
  refine ⟨S', i1, ?_⟩
  rw [f_Rows_countFree_s, i3]
  simp only [Option.bind_some]
  rw [z0, e1]
  simp only [Option.bind_some]
  rw [show (0 : Int64) = lN 0 from rfl, e2]
  simp only [Option.bind_some]
  rw [e3, q_sub (by omega), e4]
  congr 3
  omega
theorem s_left {S : SS} (hI : Inv S) : StI f_LW_left f_RM_left S := by
  have hI' := hI
  obtain ⟨n, m, K, D, st, tp, br, mu, hIN⟩ := hI
  have hIN' := hIN
  obtain ⟨hB, hC, hR, hmu, h18, htr, hfd, hpl⟩ := hIN
  have hmn := mn_le hB
  have b1 := hB.1
  have b3 := hB.2.2.1
  have b5 := hB.2.2.2.2.1
  rcases hpl with h9 | ⟨h9, c, hF⟩
  · have h4 : S.1 0 4 = nI 0 := hfd.trans h9
    refine st_no (k := 1) (b := nI 0) hI' ?_ ?_ (by omega) (by omega)
    · rw [f_LW_left_s, f_MK_left_s, f_MK_needPlan_s, if_pos (show S.1 0 4 = 0 from h4)]; rfl
    · have hp : 0 < m ^ n := Nat.pow_pos (by omega)
      obtain ⟨M, hM⟩ := FU_s
      have hR2 : RQ n m K D st tp br mu (wI S 33 0 (nI 1)) := RQ_f (fun p k q => by rw [w_n (by omega)]) hR
      rw [f_RM_left_s]
      simp (disch := omega) only [q_le_t, q_le_f, q_lt_t, q_lt_f, q_eq_t, q_eq_f, q_oob, q_cl, q_mul, nI_add, z0, z1, z2, z4, z6, z7, z8, z64, z512, zT, if_b0, if_b1, if_b01, ite_true, ite_false, ↓reduceIte, Option.bind_some, Sum.elim_inl, Sum.elim_inr, h9]
      rw [hM, f_RM_left_L20_s, r_rows hB hR2]
      simp (disch := omega) only [q_le_t, q_le_f, q_lt_t, q_lt_f, q_eq_t, q_eq_f, q_oob, q_cl, q_mul, nI_add, z0, z1, z2, z4, z6, z7, z8, z64, z512, zT, if_b0, if_b1, if_b01, ite_true, ite_false, ↓reduceIte, Option.bind_some, Sum.elim_inl, Sum.elim_inr, w_n, h9]
  · have h4 : S.1 0 4 = nI 1 := hfd.trans h9
    obtain ⟨S', i1, i2⟩ := c_left hB hC hF
    have e1 : f_LW_left S = some (nI 0, wL S' 38 0 (nI (cn (ZR n m K D st br mu c 0) (m ^ n))).toInt64) := by
      rw [f_LW_left_s, f_MK_left_s, f_MK_needPlan_s]
      simp (disch := omega) only [q_le_t, q_le_f, q_lt_t, q_lt_f, q_eq_t, q_eq_f, q_oob, q_cl, q_mul, nI_add, z0, z1, z2, z4, z6, z7, z8, z64, z512, zT, if_b0, if_b1, if_b01, ite_true, ite_false, ↓reduceIte, Option.bind_some, Sum.elim_inl, Sum.elim_inr, h4, i2]
    obtain ⟨S1, hS1⟩ : ∃ S1, S1 = wL S' 38 0 (nI (cn (ZR n m K D st br mu c 0) (m ^ n))).toInt64 := ⟨_, rfl⟩
    rw [← hS1] at e1
    have g1 : ∀ p k, ¬ (27 ≤ p ∧ p < 33) → S1.1 p k = S.1 p k := fun p k q => by rw [hS1, u_1]; exact i1.2 p k q
    have g2 : ∀ p k, p ≠ 38 → S1.2 p k = S.2 p k := fun p k q => by rw [hS1, u_n (fun h => q h.1), i1.1]
    have g3 : S1.2 38 0 = (nI (cn (ZR n m K D st br mu c 0) (m ^ n))).toInt64 := by rw [hS1, u_s]
    have f9 : S1.1 33 9 = nI 1 := by rw [g1 33 9 (by omega)]; exact h9
    have hR1 : RQ n m K D st tp br mu (wI S1 33 0 (nI 0)) := RQ_f (fun p k q => by rw [w_n (by omega), g1 p k (by omega)]) hR
    have hc1 : CU n K c (wI S1 33 0 (nI 0)) := fun k p hk hp => by
      rw [w_n (by omega), g1 36 _ (by omega)]; exact FP_cu hB hF k p hk hp
    obtain ⟨S2, j1, j2⟩ := r_left_L (c := c) hB (fun k p hk hp => (hF.1 k p hk hp).1) (m ^ n) FU 0 _ (by omega) (by rw [FU_eq]; omega) hR1 hc1 (by rw [w_n (by omega)]; exact f9)
    rw [show cn (ZR n m K D st br mu c 0) 0 = 0 from rfl] at j2
    have e2 : f_RM_left S1 = some (nI (cn (ZR n m K D st br mu c 0) (m ^ n)), S2) := by
      rw [f_RM_left_s]
      simp (disch := omega) only [q_le_t, q_le_f, q_lt_t, q_lt_f, q_eq_t, q_eq_f, q_oob, q_cl, q_mul, nI_add, z0, z1, z2, z4, z6, z7, z8, z64, z512, zT, if_b0, if_b1, if_b01, ite_true, ite_false, ↓reduceIte, Option.bind_some, Sum.elim_inl, Sum.elim_inr, f9, j2]
    refine ⟨nI 0, S1, _, S2, e1, e2, ?_, fun _ => ?_, n, m, K, D, st, tp, br, mu, IN_f (fun p k q => ?_) (fun p k q => ?_) hIN'⟩
    · rw [j1.2 33 0 (by unfold E37; omega), w_s]
    · rw [j1.1, w_2, g3]
    · rw [j1.2 p k (by unfold E37; omega), w_n (by omega), g1 p k (by omega)]
    · rw [j1.1, w_2, g2 p k (by omega)]
