/-! key, door, step, top -/
theorem r_key_L {S : SS} {K : Nat} (hK : K < 8) (e : S.1 33 3 = nI K) : ∀ t N k (S' : SS), k + t = 6 → t < N → Fr (fun p i => p = 34 ∧ 6 * K ≤ i ∧ i < 6 * K + 6) S S' → (∀ d, d < k → S'.1 34 (6 * K + d) = nI 0) →
    ∃ S2, Fr (fun p i => p = 34 ∧ 6 * K ≤ i ∧ i < 6 * K + 6) S S2 ∧ (∀ d, d < 6 → S2.1 34 (6 * K + d) = nI 0) ∧ f_RM_key_L29 N (nI k) S' = some S2 := by
  intro t
  induction t with
  | zero =>
    intro N k S' hk hN hF hd
    obtain ⟨N, rfl⟩ : ∃ M, N = M + 1 := ⟨N - 1, by omega⟩
    have : k = 6 := by omega
    subst this
    refine ⟨S', hF, hd, ?_⟩
    rw [f_RM_key_L29_s]
    simp (disch := omega) only [q_le_t, q_le_f, q_lt_t, q_lt_f, q_eq_t, q_eq_f, q_oob, q_cl, q_mul, nI_add, z0, z1, z2, z4, z6, z7, z8, z64, z512, zT, if_b0, if_b1, if_b01, ite_true, ite_false, ↓reduceIte, Option.bind_some, Sum.elim_inl, Sum.elim_inr]
  | succ t ih =>
    intro N k S' hk hN hF hd
    obtain ⟨N, rfl⟩ : ∃ M, N = M + 1 := ⟨N - 1, by omega⟩
    have e' : S'.1 33 3 = nI K := by rw [hF.2 33 3 (by omega)]; exact e
    rw [f_RM_key_L29_s]
    simp (disch := omega) only [q_le_t, q_le_f, q_lt_t, q_lt_f, q_eq_t, q_eq_f, q_oob, q_cl, q_mul, nI_add, z0, z1, z2, z4, z6, z7, z8, z64, z512, zT, if_b0, if_b1, if_b01, ite_true, ite_false, ↓reduceIte, Option.bind_some, Sum.elim_inl, Sum.elim_inr, e', nar0]
    apply ih N (k + 1) _ (by omega) (by omega) (Fr_tr hF (Fr_w ⟨rfl, by omega, by omega⟩))
    intro d hd2
    rcases Nat.lt_or_ge d k with h | h
    · rw [w_n (by omega)]; exact hd d h
    · have : d = k := by omega
      subst this
      rw [w_s]
theorem s_key {S : SS} (hI : Inv S) : StI f_LW_key f_RM_key S := by
  have hI' := hI
  obtain ⟨n, m, K, D, st, tp, br, mu, hB, hC, hR, hmu, h18, htr, hfd, hpl⟩ := hI
  have hB' := hB
  obtain ⟨b1, b2, b3, b4, b5, b6, b7, b8, b9⟩ := hB
  obtain ⟨c1, c2, c3, c4, c5, c6, c7, c8⟩ := hC
  obtain ⟨r1, r2, r3, r4, r6, r7, r8, r9⟩ := hR
  rcases Nat.lt_or_ge K 8 with hK | hK
  · have e1 : f_LW_key S = some (nI 0, wL (wI (wI S 0 4 (nI 0)) 2 1 (nI (K + 1))) 38 0 (nI K).toInt64) := by
      rw [f_LW_key_s, f_MK_key_s]
      simp (disch := omega) only [q_le_t, q_le_f, q_lt_t, q_lt_f, q_eq_t, q_eq_f, q_oob, q_cl, q_mul, nI_add, z0, z1, z2, z4, z6, z7, z8, z64, z512, zT, if_b0, if_b1, if_b01, ite_true, ite_false, ↓reduceIte, Option.bind_some, Sum.elim_inl, Sum.elim_inr, c5, q_sub]
      rw [show K + 1 - 1 = K by omega]
    obtain ⟨S1, hS1⟩ : ∃ S1, S1 = wL (wI (wI S 0 4 (nI 0)) 2 1 (nI (K + 1))) 38 0 (nI K).toInt64 := ⟨_, rfl⟩
    rw [← hS1] at e1
    have g1 : ∀ p k, ¬ (p = 0 ∧ k = 4) → ¬ (p = 2 ∧ k = 1) → S1.1 p k = S.1 p k := fun p k q1 q2 => by rw [hS1, u_1, w_n q2, w_n q1]
    have g2 : ∀ p k, p ≠ 38 → S1.2 p k = S.2 p k := fun p k q => by rw [hS1, u_n (fun h => q h.1)]; rfl
    have g3 : S1.1 0 4 = nI 0 := by rw [hS1, u_1, w_n (by omega), w_s]
    have g4 : S1.1 2 1 = nI (K + 1) := by rw [hS1, u_1, w_s]
    have g5 : S1.2 38 0 = (nI K).toInt64 := by rw [hS1, u_s]
    have f3 : S1.1 33 3 = nI K := by rw [g1 33 3 (by omega) (by omega)]; exact r3
    obtain ⟨S2, k1, k2, k3⟩ := r_key_L (S := wI S1 33 0 (nI 0)) hK (by rw [w_n (by omega)]; exact f3) 6 FU 0 _ (by omega) (by rw [FU_eq]; omega) Fr_rfl (fun d hd => absurd hd (by omega))
    have k4 : S2.1 33 3 = nI K := by rw [k1.2 33 3 (by omega), w_n (by omega)]; exact f3
    have e2 : f_RM_key S1 = some (nI K, wI (wI S2 33 3 (nI (K + 1))) 33 9 (nI 0)) := by
      rw [f_RM_key_s]
      simp (disch := omega) only [q_le_t, q_le_f, q_lt_t, q_lt_f, q_eq_t, q_eq_f, q_oob, q_cl, q_mul, nI_add, z0, z1, z2, z4, z6, z7, z8, z64, z512, zT, if_b0, if_b1, if_b01, ite_true, ite_false, ↓reduceIte, Option.bind_some, Sum.elim_inl, Sum.elim_inr, f3, k3, k4, q_sub]
      rw [show K + 1 - 1 = K by omega]
    have g : ∀ p k, ¬ (p = 0 ∧ k = 4) → ¬ (p = 2 ∧ k = 1) → ¬ (p = 34 ∧ 6 * K ≤ k ∧ k < 6 * K + 6) → ¬ (p = 33 ∧ (k = 0 ∨ k = 3 ∨ k = 9)) → (wI (wI S2 33 3 (nI (K + 1))) 33 9 (nI 0)).1 p k = S.1 p k := fun p k q1 q2 q3 q4 => by
      rw [w_n (by omega), w_n (by omega), k1.2 p k q3, w_n (by omega), g1 p k q1 q2]
    have gL : ∀ p k, p ≠ 38 → (wI (wI S2 33 3 (nI (K + 1))) 33 9 (nI 0)).2 p k = S.2 p k := fun p k q => by
      rw [w_2, w_2, k1.1, w_2, g2 p k q]
    refine ⟨nI 0, S1, nI K, _, e1, e2, ?_, fun _ => ?_, n, m, K + 1, D, st, tp, br, mu, ?_, ⟨?_, ?_, ?_, ?_, ?_, ?_, ?_, fun k hk => ?_⟩, ⟨?_, ?_, ?_, ?_, ?_, ?_, fun i j hi hj => ?_, fun k d hk hd => ?_⟩, fun k d q => ?_, fun d hd => ?_, ?_, ?_, Or.inl w_s⟩
    · rw [w_n (by omega), w_n (by omega), k1.2 33 0 (by omega), w_s]
    · rw [w_2, w_2, k1.1, w_2, g5]
    · unfold BD; omega
    · rw [g 1 0 (by omega) (by omega) (by omega) (by omega), c1]
    · rw [g 1 1 (by omega) (by omega) (by omega) (by omega), c2]
    · rw [g 1 2 (by omega) (by omega) (by omega) (by omega), c3]
    · rw [g 1 3 (by omega) (by omega) (by omega) (by omega), c4]
    · rw [w_n (by omega), w_n (by omega), k1.2 2 1 (by omega), w_n (by omega), g4]
    · rw [g 2 2 (by omega) (by omega) (by omega) (by omega), c6]
    · rw [gL 1 4 (by omega), c7]
    · rw [g 5 k (by omega) (by omega) (by omega) (by omega), c8 k hk]
    · rw [g 33 1 (by omega) (by omega) (by omega) (by omega), r1]
    · rw [g 33 2 (by omega) (by omega) (by omega) (by omega), r2]
    · rw [w_n (by omega), w_s]
    · rw [g 33 4 (by omega) (by omega) (by omega) (by omega), r4]
    · rw [g 33 6 (by omega) (by omega) (by omega) (by omega), r6]
    · rw [g 33 7 (by omega) (by omega) (by omega) (by omega), r7]
    · rw [g 35 _ (by omega) (by omega) (by omega) (by omega), r8 i j hi hj]
    · by_cases hkK : k = K
      · subst hkK
        rw [w_n (by omega), w_n (by omega), k2 d hd, bI_f (fun q => by have := (hmu k d q).1; omega)]
      · rw [g 34 _ (by omega) (by omega) (by omega) (by omega), r9 k d hk hd]
    · have := hmu k d q; omega
    · rw [gL 18 d (by omega)]; exact h18 d hd
    · rw [g 3 2 (by omega) (by omega) (by omega) (by omega), g 33 10 (by omega) (by omega) (by omega) (by omega)]; exact htr
    · rw [w_n (by omega), w_n (by omega), k1.2 0 4 (by omega), w_n (by omega), g3, w_s]
  · have hK8 : K = 8 := by omega
    subst hK8
    refine st_no (k := 1) (b := nI 0) hI' ?_ ?_ (by omega) (by omega)
    · rw [f_LW_key_s, f_MK_key_s]
      simp (disch := omega) only [q_le_t, q_le_f, q_lt_t, q_lt_f, q_eq_t, q_eq_f, q_oob, q_cl, q_mul, nI_add, z0, z1, z2, z4, z6, z7, z8, z64, z512, zT, if_b0, if_b1, if_b01, ite_true, ite_false, ↓reduceIte, Option.bind_some, Sum.elim_inl, Sum.elim_inr, c5]
    · rw [f_RM_key_s]
      simp (disch := omega) only [q_le_t, q_le_f, q_lt_t, q_lt_f, q_eq_t, q_eq_f, q_oob, q_cl, q_mul, nI_add, z0, z1, z2, z4, z6, z7, z8, z64, z512, zT, if_b0, if_b1, if_b01, ite_true, ite_false, ↓reduceIte, Option.bind_some, Sum.elim_inl, Sum.elim_inr, r3]
theorem s_door {S : SS} (hI : Inv S) : StI f_LW_door f_RM_door S := by
  have hI' := hI
  obtain ⟨n, m, K, D, st, tp, br, mu, hB, hC, hR, hmu, h18, htr, hfd, hpl⟩ := hI
  have hB' := hB
  obtain ⟨b1, b2, b3, b4, b5, b6, b7, b8, b9⟩ := hB
  obtain ⟨c1, c2, c3, c4, c5, c6, c7, c8⟩ := hC
  obtain ⟨r1, r2, r3, r4, r6, r7, r8, r9⟩ := hR
  rcases Nat.lt_or_ge D 6 with hK | hK
  · have e1 : f_LW_door S = some (nI 0, wL (wI (wI S 0 4 (nI 0)) 2 2 (nI (D + 1))) 38 0 (nI D).toInt64) := by
      rw [f_LW_door_s, f_MK_door_s]
      simp (disch := omega) only [q_le_t, q_le_f, q_lt_t, q_lt_f, q_eq_t, q_eq_f, q_oob, q_cl, q_mul, nI_add, z0, z1, z2, z4, z6, z7, z8, z64, z512, zT, if_b0, if_b1, if_b01, ite_true, ite_false, ↓reduceIte, Option.bind_some, Sum.elim_inl, Sum.elim_inr, c6, q_sub]
      rw [show D + 1 - 1 = D by omega]
    have e2 : f_RM_door (wL (wI (wI S 0 4 (nI 0)) 2 2 (nI (D + 1))) 38 0 (nI D).toInt64) = some (nI D, wI (wI (wI (wL (wI (wI S 0 4 (nI 0)) 2 2 (nI (D + 1))) 38 0 (nI D).toInt64) 33 0 (nI 0)) 33 4 (nI (D + 1))) 33 9 (nI 0)) := by
      rw [f_RM_door_s]
      simp (disch := omega) only [q_le_t, q_le_f, q_lt_t, q_lt_f, q_eq_t, q_eq_f, q_oob, q_cl, q_mul, nI_add, z0, z1, z2, z4, z6, z7, z8, z64, z512, zT, if_b0, if_b1, if_b01, ite_true, ite_false, ↓reduceIte, Option.bind_some, Sum.elim_inl, Sum.elim_inr, u_1, w_n, r4, q_sub]
      rw [show D + 1 - 1 = D by omega]
    have g : ∀ p k, ¬ (p = 0 ∧ k = 4) → ¬ (p = 2 ∧ k = 2) → ¬ (p = 33 ∧ (k = 0 ∨ k = 4 ∨ k = 9)) → (wI (wI (wI (wL (wI (wI S 0 4 (nI 0)) 2 2 (nI (D + 1))) 38 0 (nI D).toInt64) 33 0 (nI 0)) 33 4 (nI (D + 1))) 33 9 (nI 0)).1 p k = S.1 p k := fun p k q1 q2 q4 => by
      rw [w_n (by omega), w_n (by omega), w_n (by omega), u_1, w_n (by omega), w_n (by omega)]
    have gL : ∀ p k, p ≠ 38 → (wI (wI (wI (wL (wI (wI S 0 4 (nI 0)) 2 2 (nI (D + 1))) 38 0 (nI D).toInt64) 33 0 (nI 0)) 33 4 (nI (D + 1))) 33 9 (nI 0)).2 p k = S.2 p k := fun p k q => by
      rw [w_2, w_2, w_2, u_n (by omega)]; rfl
    refine ⟨nI 0, _, nI D, _, e1, e2, ?_, fun _ => ?_, n, m, K, D + 1, st, tp, br, mu, ?_, ⟨?_, ?_, ?_, ?_, ?_, ?_, ?_, fun k hk => ?_⟩, ⟨?_, ?_, ?_, ?_, ?_, ?_, fun i j hi hj => ?_, fun k d hk hd => ?_⟩, fun k d q => ?_, fun d hd => ?_, ?_, ?_, Or.inl w_s⟩
    · rw [w_n (by omega), w_n (by omega), w_s]
    · rw [w_2, w_2, w_2, u_s]
    · unfold BD; omega
    · rw [g 1 0 (by omega) (by omega) (by omega), c1]
    · rw [g 1 1 (by omega) (by omega) (by omega), c2]
    · rw [g 1 2 (by omega) (by omega) (by omega), c3]
    · rw [g 1 3 (by omega) (by omega) (by omega), c4]
    · rw [g 2 1 (by omega) (by omega) (by omega), c5]
    · rw [w_n (by omega), w_n (by omega), w_n (by omega), u_1, w_s]
    · rw [gL 1 4 (by omega), c7]
    · rw [g 5 k (by omega) (by omega) (by omega), c8 k hk]
    · rw [g 33 1 (by omega) (by omega) (by omega), r1]
    · rw [g 33 2 (by omega) (by omega) (by omega), r2]
    · rw [g 33 3 (by omega) (by omega) (by omega), r3]
    · rw [w_n (by omega), w_s]
    · rw [g 33 6 (by omega) (by omega) (by omega), r6]
    · rw [g 33 7 (by omega) (by omega) (by omega), r7]
    · rw [g 35 _ (by omega) (by omega) (by omega), r8 i j hi hj]
    · rw [g 34 _ (by omega) (by omega) (by omega), r9 k d hk hd]
    · have := hmu k d q; omega
    · rw [gL 18 d (by omega)]; exact h18 d hd
    · rw [g 3 2 (by omega) (by omega) (by omega), g 33 10 (by omega) (by omega) (by omega)]; exact htr
    · rw [w_n (by omega), w_n (by omega), w_n (by omega), u_1, w_n (by omega), w_s, w_s]
  · have hK8 : D = 6 := by omega
    subst hK8
    refine st_no (k := 1) (b := nI 0) hI' ?_ ?_ (by omega) (by omega)
    · rw [f_LW_door_s, f_MK_door_s]
      simp (disch := omega) only [q_le_t, q_le_f, q_lt_t, q_lt_f, q_eq_t, q_eq_f, q_oob, q_cl, q_mul, nI_add, z0, z1, z2, z4, z6, z7, z8, z64, z512, zT, if_b0, if_b1, if_b01, ite_true, ite_false, ↓reduceIte, Option.bind_some, Sum.elim_inl, Sum.elim_inr, c6]
    · rw [f_RM_door_s]
      simp (disch := omega) only [q_le_t, q_le_f, q_lt_t, q_lt_f, q_eq_t, q_eq_f, q_oob, q_cl, q_mul, nI_add, z0, z1, z2, z4, z6, z7, z8, z64, z512, zT, if_b0, if_b1, if_b01, ite_true, ite_false, ↓reduceIte, Option.bind_some, Sum.elim_inl, Sum.elim_inr, r4]
theorem s_step {S : SS} (hI : Inv S) (a : Int32) : StI (f_LW_step a) (f_RM_step a) S := by
  have hI' := hI
  obtain ⟨n, m, K, D, st, tp, br, mu, hB, hC, hR, hmu, h18, htr, hfd, hpl⟩ := hI
  have hB' := hB
  obtain ⟨b1, b2, b3, b4, b5, b6, b7, b8, b9⟩ := hB
  obtain ⟨c1, c2, c3, c4, c5, c6, c7, c8⟩ := hC
  obtain ⟨r1, r2, r3, r4, r6, r7, r8, r9⟩ := hR
  by_cases h0 : a < nI 0
  · refine st_no (k := 1) (b := nI 0) hI' ?_ ?_ (by omega) (by omega)
    · rw [f_LW_step_s, f_MK_step_s, if_pos (show a < 0 from h0)]; rfl
    · rw [f_RM_step_s, f_RM_isIn_s, z0, if_pos h0]; rfl
  · obtain ⟨x, hx, rfl⟩ := nI_of h0
    rcases Nat.lt_or_ge 7 x with hK | hK
    · refine st_no (k := 1) (b := nI 0) hI' ?_ ?_ (by omega) (by omega)
      · rw [f_LW_step_s, f_MK_step_s]
        simp (disch := omega) only [q_le_t, q_le_f, q_lt_t, q_lt_f, q_eq_t, q_eq_f, q_oob, q_cl, q_mul, nI_add, z0, z1, z2, z4, z6, z7, z8, z64, z512, zT, if_b0, if_b1, if_b01, ite_true, ite_false, ↓reduceIte, Option.bind_some, Sum.elim_inl, Sum.elim_inr]
      · rw [f_RM_step_s, f_RM_isIn_s]
        simp (disch := omega) only [q_le_t, q_le_f, q_lt_t, q_lt_f, q_eq_t, q_eq_f, q_oob, q_cl, q_mul, nI_add, z0, z1, z2, z4, z6, z7, z8, z64, z512, zT, if_b0, if_b1, if_b01, ite_true, ite_false, ↓reduceIte, Option.bind_some, Sum.elim_inl, Sum.elim_inr]
    · have e1 : f_LW_step (nI x) S = some (nI 0, wL (wI (wI S 0 4 (nI 0)) 1 2 (nI x)) 38 0 (nI st).toInt64) := by
        rw [f_LW_step_s, f_MK_step_s]
        simp (disch := omega) only [q_le_t, q_le_f, q_lt_t, q_lt_f, q_eq_t, q_eq_f, q_oob, q_cl, q_mul, nI_add, z0, z1, z2, z4, z6, z7, z8, z64, z512, zT, if_b0, if_b1, if_b01, ite_true, ite_false, ↓reduceIte, Option.bind_some, Sum.elim_inl, Sum.elim_inr, c3]
      have e2 : f_RM_step (nI x) (wL (wI (wI S 0 4 (nI 0)) 1 2 (nI x)) 38 0 (nI st).toInt64) = some (nI st, wI (wI (wI (wL (wI (wI S 0 4 (nI 0)) 1 2 (nI x)) 38 0 (nI st).toInt64) 33 0 (nI 0)) 33 6 (nI x)) 33 9 (nI 0)) := by
        rw [f_RM_step_s, f_RM_isIn_s]
        simp (disch := omega) only [q_le_t, q_le_f, q_lt_t, q_lt_f, q_eq_t, q_eq_f, q_oob, q_cl, q_mul, nI_add, z0, z1, z2, z4, z6, z7, z8, z64, z512, zT, if_b0, if_b1, if_b01, ite_true, ite_false, ↓reduceIte, Option.bind_some, Sum.elim_inl, Sum.elim_inr, u_1, w_n, r6]
      have g : ∀ p k, ¬ (p = 0 ∧ k = 4) → ¬ (p = 1 ∧ k = 2) → ¬ (p = 33 ∧ (k = 0 ∨ k = 6 ∨ k = 9)) → (wI (wI (wI (wL (wI (wI S 0 4 (nI 0)) 1 2 (nI x)) 38 0 (nI st).toInt64) 33 0 (nI 0)) 33 6 (nI x)) 33 9 (nI 0)).1 p k = S.1 p k := fun p k q1 q2 q4 => by
        rw [w_n (by omega), w_n (by omega), w_n (by omega), u_1, w_n (by omega), w_n (by omega)]
      have gL : ∀ p k, p ≠ 38 → (wI (wI (wI (wL (wI (wI S 0 4 (nI 0)) 1 2 (nI x)) 38 0 (nI st).toInt64) 33 0 (nI 0)) 33 6 (nI x)) 33 9 (nI 0)).2 p k = S.2 p k := fun p k q => by
        rw [w_2, w_2, w_2, u_n (by omega)]; rfl
      refine ⟨nI 0, _, nI st, _, e1, e2, ?_, fun _ => ?_, n, m, K, D, x, tp, br, mu, ?_, ⟨?_, ?_, ?_, ?_, ?_, ?_, ?_, fun k hk => ?_⟩, ⟨?_, ?_, ?_, ?_, ?_, ?_, fun i j hi hj => ?_, fun k d hk hd => ?_⟩, hmu, fun d hd => ?_, ?_, ?_, Or.inl w_s⟩
      · rw [w_n (by omega), w_n (by omega), w_s]
      · rw [w_2, w_2, w_2, u_s]
      · unfold BD; omega
      · rw [g 1 0 (by omega) (by omega) (by omega), c1]
      · rw [g 1 1 (by omega) (by omega) (by omega), c2]
      · rw [w_n (by omega), w_n (by omega), w_n (by omega), u_1, w_s]
      · rw [g 1 3 (by omega) (by omega) (by omega), c4]
      · rw [g 2 1 (by omega) (by omega) (by omega), c5]
      · rw [g 2 2 (by omega) (by omega) (by omega), c6]
      · rw [gL 1 4 (by omega), c7]
      · rw [g 5 k (by omega) (by omega) (by omega), c8 k hk]
      · rw [g 33 1 (by omega) (by omega) (by omega), r1]
      · rw [g 33 2 (by omega) (by omega) (by omega), r2]
      · rw [g 33 3 (by omega) (by omega) (by omega), r3]
      · rw [g 33 4 (by omega) (by omega) (by omega), r4]
      · rw [w_n (by omega), w_s]
      · rw [g 33 7 (by omega) (by omega) (by omega), r7]
      · rw [g 35 _ (by omega) (by omega) (by omega), r8 i j hi hj]
      · rw [g 34 _ (by omega) (by omega) (by omega), r9 k d hk hd]
      · rw [gL 18 d (by omega)]; exact h18 d hd
      · rw [g 3 2 (by omega) (by omega) (by omega), g 33 10 (by omega) (by omega) (by omega)]; exact htr
      · rw [w_n (by omega), w_n (by omega), w_n (by omega), u_1, w_n (by omega), w_s, w_s]
theorem s_top {S : SS} (hI : Inv S) (a : Int32) : StI (f_LW_top a) (f_RM_top a) S := by
  have hI' := hI
  obtain ⟨n, m, K, D, st, tp, br, mu, hB, hC, hR, hmu, h18, htr, hfd, hpl⟩ := hI
  have hB' := hB
  obtain ⟨b1, b2, b3, b4, b5, b6, b7, b8, b9⟩ := hB
  obtain ⟨c1, c2, c3, c4, c5, c6, c7, c8⟩ := hC
  obtain ⟨r1, r2, r3, r4, r6, r7, r8, r9⟩ := hR
  by_cases h0 : a < nI 1
  · refine st_no (k := 1) (b := nI 0) hI' ?_ ?_ (by omega) (by omega)
    · rw [f_LW_top_s, f_MK_top_s, z1, if_pos h0]; rfl
    · rw [f_RM_top_s, f_RM_isIn_s, z1, if_pos h0]; rfl
  · obtain ⟨x, hx, rfl⟩ := nI_of (show ¬ a < 0 from fun q => h0 (Int32.lt_trans q (by decide +kernel)))
    have hx1 : 1 ≤ x := by
      rcases Nat.lt_or_ge x 1 with q | q
      · exact absurd (nI_lt q (by omega)) h0
      · exact q
    rcases Nat.lt_or_ge 8 x with hK | hK
    · refine st_no (k := 1) (b := nI 0) hI' ?_ ?_ (by omega) (by omega)
      · rw [f_LW_top_s, f_MK_top_s]
        simp (disch := omega) only [q_le_t, q_le_f, q_lt_t, q_lt_f, q_eq_t, q_eq_f, q_oob, q_cl, q_mul, nI_add, z0, z1, z2, z4, z6, z7, z8, z64, z512, zT, if_b0, if_b1, if_b01, ite_true, ite_false, ↓reduceIte, Option.bind_some, Sum.elim_inl, Sum.elim_inr]
      · rw [f_RM_top_s, f_RM_isIn_s]
        simp (disch := omega) only [q_le_t, q_le_f, q_lt_t, q_lt_f, q_eq_t, q_eq_f, q_oob, q_cl, q_mul, nI_add, z0, z1, z2, z4, z6, z7, z8, z64, z512, zT, if_b0, if_b1, if_b01, ite_true, ite_false, ↓reduceIte, Option.bind_some, Sum.elim_inl, Sum.elim_inr]
    · have e1 : f_LW_top (nI x) S = some (nI 0, wL (wI (wI S 0 4 (nI 0)) 1 3 (nI x)) 38 0 (nI tp).toInt64) := by
        rw [f_LW_top_s, f_MK_top_s]
        simp (disch := omega) only [q_le_t, q_le_f, q_lt_t, q_lt_f, q_eq_t, q_eq_f, q_oob, q_cl, q_mul, nI_add, z0, z1, z2, z4, z6, z7, z8, z64, z512, zT, if_b0, if_b1, if_b01, ite_true, ite_false, ↓reduceIte, Option.bind_some, Sum.elim_inl, Sum.elim_inr, c4]
      have e2 : f_RM_top (nI x) (wL (wI (wI S 0 4 (nI 0)) 1 3 (nI x)) 38 0 (nI tp).toInt64) = some (nI tp, wI (wI (wI (wL (wI (wI S 0 4 (nI 0)) 1 3 (nI x)) 38 0 (nI tp).toInt64) 33 0 (nI 0)) 33 7 (nI x)) 33 9 (nI 0)) := by
        rw [f_RM_top_s, f_RM_isIn_s]
        simp (disch := omega) only [q_le_t, q_le_f, q_lt_t, q_lt_f, q_eq_t, q_eq_f, q_oob, q_cl, q_mul, nI_add, z0, z1, z2, z4, z6, z7, z8, z64, z512, zT, if_b0, if_b1, if_b01, ite_true, ite_false, ↓reduceIte, Option.bind_some, Sum.elim_inl, Sum.elim_inr, u_1, w_n, r7]
      have g : ∀ p k, ¬ (p = 0 ∧ k = 4) → ¬ (p = 1 ∧ k = 3) → ¬ (p = 33 ∧ (k = 0 ∨ k = 7 ∨ k = 9)) → (wI (wI (wI (wL (wI (wI S 0 4 (nI 0)) 1 3 (nI x)) 38 0 (nI tp).toInt64) 33 0 (nI 0)) 33 7 (nI x)) 33 9 (nI 0)).1 p k = S.1 p k := fun p k q1 q2 q4 => by
        rw [w_n (by omega), w_n (by omega), w_n (by omega), u_1, w_n (by omega), w_n (by omega)]
      have gL : ∀ p k, p ≠ 38 → (wI (wI (wI (wL (wI (wI S 0 4 (nI 0)) 1 3 (nI x)) 38 0 (nI tp).toInt64) 33 0 (nI 0)) 33 7 (nI x)) 33 9 (nI 0)).2 p k = S.2 p k := fun p k q => by
        rw [w_2, w_2, w_2, u_n (by omega)]; rfl
      refine ⟨nI 0, _, nI tp, _, e1, e2, ?_, fun _ => ?_, n, m, K, D, st, x, br, mu, ?_, ⟨?_, ?_, ?_, ?_, ?_, ?_, ?_, fun k hk => ?_⟩, ⟨?_, ?_, ?_, ?_, ?_, ?_, fun i j hi hj => ?_, fun k d hk hd => ?_⟩, hmu, fun d hd => ?_, ?_, ?_, Or.inl w_s⟩
      · rw [w_n (by omega), w_n (by omega), w_s]
      · rw [w_2, w_2, w_2, u_s]
      · unfold BD; omega
      · rw [g 1 0 (by omega) (by omega) (by omega), c1]
      · rw [g 1 1 (by omega) (by omega) (by omega), c2]
      · rw [g 1 2 (by omega) (by omega) (by omega), c3]
      · rw [w_n (by omega), w_n (by omega), w_n (by omega), u_1, w_s]
      · rw [g 2 1 (by omega) (by omega) (by omega), c5]
      · rw [g 2 2 (by omega) (by omega) (by omega), c6]
      · rw [gL 1 4 (by omega), c7]
      · rw [g 5 k (by omega) (by omega) (by omega), c8 k hk]
      · rw [g 33 1 (by omega) (by omega) (by omega), r1]
      · rw [g 33 2 (by omega) (by omega) (by omega), r2]
      · rw [g 33 3 (by omega) (by omega) (by omega), r3]
      · rw [g 33 4 (by omega) (by omega) (by omega), r4]
      · rw [g 33 6 (by omega) (by omega) (by omega), r6]
      · rw [w_n (by omega), w_s]
      · rw [g 35 _ (by omega) (by omega) (by omega), r8 i j hi hj]
      · rw [g 34 _ (by omega) (by omega) (by omega), r9 k d hk hd]
      · rw [gL 18 d (by omega)]; exact h18 d hd
      · rw [g 3 2 (by omega) (by omega) (by omega), g 33 10 (by omega) (by omega) (by omega)]; exact htr
      · rw [w_n (by omega), w_n (by omega), w_n (by omega), u_1, w_n (by omega), w_s, w_s]
