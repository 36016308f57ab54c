/-! add -/
section Add
variable {n m K D st tp : Nat} {br mu : Nat → Nat → Prop} {c : Nat → Nat → Nat} {w : Nat}
theorem c_cut (hB : BD n m K D st tp) (hK : K < 8) (hw : w < 64) {S : SS} (hR : CQ n m K D st tp br mu S) (hF : FP n m K D st tp br mu c S) :
    (∃ S', Fr (fun a b => EW a b ∨ a = 10 + K) S S' ∧ (∀ R, R < m ^ n → ¬ ZR n m K D st br mu c w R) ∧ f_Rows_cutLeast (nI w) S = some (nI 0, S')) ∨
    (∃ S' r', Fr (fun a b => EW a b ∨ a = 10 + K) S S' ∧ (∀ i, i < n → S'.1 (10 + K) i = nI (r' i) ∧ r' i < m) ∧ ZR n m K D st br mu c w (nm m r' n) ∧ (∀ R, R < nm m r' n → ¬ ZR n m K D st br mu c w R) ∧ f_Rows_cutLeast (nI w) S = some (nI 1, S')) := by
  have hB' := hB
  obtain ⟨b1, b2, b3, b4, b5, b6, b7, b8, b9⟩ := hB
  obtain ⟨S1, i1, i2, i3⟩ := c_ways hB' hw hR hF
  have hR1 := CQ_w i1 hR
  have hF1 := FP_w b5 i1 hF
  have r5 := hR1.2.2.2.2.1
  have r6 := hR1.2.2.2.2.2.1
  have hD64 : 2 ^ D ≤ 2 ^ 6 := Nat.pow_le_pow_right (by omega) b6
  have hpos : 0 < 2 ^ D := Nat.pow_pos (by omega)
  have ea : f_Board_allDoors S1 = some (nI (mk (fun d => ∀ i, i < 0 → Held mu c K d i 0) D)) := by
    rw [f_Board_allDoors_s, r6, z1, i_shl D (by omega), q_sub hpos, ← mk_all]
    congr 2
    exact mk_c (fun i _ => ⟨fun _ j hj => absurd hj (by omega), fun _ => trivial⟩)
  have e0 : (0 : Int64) = lN (mk (rb 0 (fun _ => 0)) 48) := by
    rw [show lN (mk (rb 0 (fun _ => 0)) 48) = lN 0 from congrArg lN ((mk_c (fun i hi => ⟨fun q => absurd q.1 (by omega), fun q => q.elim⟩)).trans (mk_f 48))]; rfl
  have hc := c_cl_L (w := w) hB' hK hw n FU 0 (fun _ => 0) S1 (by omega) (by rw [FU_eq]; omega) hR1 hF1 i2 (fun i hi => absurd hi (by omega)) (fun i hi => absurd hi (by omega)) (fun R hR => by
    have h : R < 0 * m ^ (n - 0) := hR
    rw [Nat.zero_mul] at h; omega) (Or.inl rfl)
  have hE : ∀ {T U : SS}, Fr (fun a _ => a = 10 + K) T U → Fr (fun a b => EW a b ∨ a = 10 + K) T U := fun h => Fr_mono (fun a b q => Or.inr q) h
  have hE1 : Fr (fun a b => EW a b ∨ a = 10 + K) S S1 := Fr_mono (fun a b q => Or.inl q) i1
  have eq : f_Rows_cutLeast (nI w) S = (f_Rows_cutLeast_L35 (nI w) (10 + K) FU (nI (mk (fun d => ∀ i, i < 0 → Held mu c K d i 0) D)) (lN (mk (rb 0 (fun _ => 0)) 48)) (nI 0) S1).bind fun v4 => Sum.elim (fun r5 => some r5) (fun v4 => some (nI 1, v4)) v4 := by
    rw [f_Rows_cutLeast_s, i3, ← e0]
    simp (disch := omega) only [q_le_t, q_le_f, q_lt_t, q_lt_f, q_eq_t, q_eq_f, q_oob, q_cl, q_mul, nI_add, z0, z1, z2, z4, z6, z7, z8, z64, z512, zT, if_b0, if_b1, if_b01, ite_true, ite_false, ↓reduceIte, Option.bind_some, Sum.elim_inl, Sum.elim_inr, r5, ea]
  rcases hc with ⟨S', k1, k2, k3⟩ | ⟨S', r', k1, k2, k3, k4, k5⟩
  · exact Or.inl ⟨S', Fr_tr hE1 (hE k1), k2, by rw [eq, k3]; rfl⟩
  · exact Or.inr ⟨S', r', Fr_tr hE1 (hE k1), k2, k3, k4, by rw [eq, k5]; rfl⟩
theorem c_en_L (hK : K < 8) (hD : D ≤ 6) {S0 : SS} : ∀ t N k (S : SS), k + t = D → t < N → S.1 = S0.1 → S0.1 2 2 = nI D → (∀ a b, ¬ (a = 18 + (K + 1)) → S.2 a b = S0.2 a b) → (∀ d, d < k → S.2 (18 + (K + 1)) d = S0.2 (18 + K) d) →
    ∃ S', S'.1 = S0.1 ∧ (∀ a b, ¬ (a = 18 + (K + 1)) → S'.2 a b = S0.2 a b) ∧ (∀ d, d < D → S'.2 (18 + (K + 1)) d = S0.2 (18 + K) d) ∧ f_Board_enter_L25 (nI K) N (nI k) S = some S' := by
  intro t
  induction t with
  | zero =>
    intro N k S hk hN h1 h22 h2 hd
    obtain ⟨N, rfl⟩ : ∃ M, N = M + 1 := ⟨N - 1, by omega⟩
    have : k = D := by omega
    subst this
    refine ⟨S, h1, h2, hd, ?_⟩
    rw [f_Board_enter_L25_s, h1]
    simp (disch := omega) only [q_le_t, q_le_f, q_lt_t, q_lt_f, q_eq_t, q_eq_f, q_oob, q_cl, q_mul, nI_add, z0, z1, z2, z4, z6, z7, z8, z64, z512, zT, if_b0, if_b1, if_b01, ite_true, ite_false, ↓reduceIte, Option.bind_some, Sum.elim_inl, Sum.elim_inr, h22]
  | succ t ih =>
    intro N k S hk hN h1 h22 h2 hd
    obtain ⟨N, rfl⟩ : ∃ M, N = M + 1 := ⟨N - 1, by omega⟩
    have e := h2 (18 + K) k (by omega)
    obtain ⟨S', j1, j2, j3, j4⟩ := ih N (k + 1) (wL S (18 + (K + 1)) k (S0.2 (18 + K) k)) (by omega) (by omega) h1 h22 (fun a b q => by rw [u_n (fun h => q h.1)]; exact h2 a b q) (fun d hd2 => by
      rcases Nat.lt_or_ge d k with h | h
      · rw [u_n (by omega)]; exact hd d h
      · have : d = k := by omega
        subst this
        rw [u_s])
    refine ⟨S', j1, j2, j3, ?_⟩
    rw [f_Board_enter_L25_s, h1]
    simp (disch := omega) only [q_le_t, q_le_f, q_lt_t, q_lt_f, q_eq_t, q_eq_f, q_oob, q_cl, q_mul, nI_add, z0, z1, z2, z4, z6, z7, z8, z64, z512, zT, if_b0, if_b1, if_b01, ite_true, ite_false, ↓reduceIte, Option.bind_some, Sum.elim_inl, Sum.elim_inr, h22, e]
    exact j4
end Add
theorem s_add {S : SS} (hI : Inv S) (a : Int32) : StI (f_LW_add a) (f_RM_add a) S := by
  have hI' := hI
  obtain ⟨n, m, K, D, st, tp, br, mu, hIN⟩ := hI
  have hIN' := hIN
  obtain ⟨hB, hC, hR, hmu, h18, htr, hfd, hpl⟩ := hIN
  have hB' := hB
  have hC' := hC
  have hR' := hR
  have hmn := mn_le hB
  obtain ⟨b1, b2, b3, b4, b5, b6, b7, b8, b9⟩ := hB
  obtain ⟨c1, c2, c3, c4, c5, c6, c7, c8⟩ := hC
  obtain ⟨r1, r2, r3, r4, r6, r7, r8, r9⟩ := hR
  have hD64 : 2 ^ D ≤ 2 ^ 6 := Nat.pow_le_pow_right (by omega) b6
  have hpos : 0 < 2 ^ D := Nat.pow_pos (by omega)
  have ea : f_Board_allDoors S = some (nI (2 ^ D - 1)) := by
    rw [f_Board_allDoors_s, c6, z1, i_shl D (by omega), q_sub hpos]
  by_cases h0 : a < nI 0
  · refine st_no (k := 1) (b := nI 0) hI' ?_ ?_ (by omega) (by omega)
    · rw [f_LW_add_s, f_MK_add_s, if_pos (show a < 0 from h0)]; rfl
    · rw [f_RM_add_s, if_pos (show a < 0 from h0)]; rfl
  · obtain ⟨w, hw31, rfl⟩ := nI_of h0
    rcases Nat.lt_or_ge w (2 ^ D) with hw | hw
    · rcases hpl with h9 | ⟨h9, c, hF⟩
      · have h4 : S.1 0 4 = nI 0 := hfd.trans h9
        refine st_no (k := 2) (b := nI 0) hI' ?_ ?_ (by omega) (by omega)
        · rw [f_LW_add_s, f_MK_add_s, f_MK_needPlan_s]
          simp (disch := omega) only [q_le_t, q_le_f, q_lt_t, q_lt_f, q_eq_t, q_eq_f, q_oob, q_cl, q_mul, nI_add, z0, z1, z2, z4, z6, z7, z8, z64, z512, zT, if_b0, if_b1, if_b01, ite_true, ite_false, ↓reduceIte, Option.bind_some, Sum.elim_inl, Sum.elim_inr, ea, h4]
          rfl
        · rw [f_RM_add_s, r4]
          simp (disch := omega) only [q_le_t, q_le_f, q_lt_t, q_lt_f, q_eq_t, q_eq_f, q_oob, q_cl, q_mul, nI_add, z0, z1, z2, z4, z6, z7, z8, z64, z512, zT, if_b0, if_b1, if_b01, ite_true, ite_false, ↓reduceIte, Option.bind_some, Sum.elim_inl, Sum.elim_inr, i_shl, h9]
      · have h4 : S.1 0 4 = nI 1 := hfd.trans h9
        rcases Nat.lt_or_ge K 8 with hK | hK
        · have hcm : ∀ k p, k < K → p < n → c k p < m := fun k p hk hp => (hF.1 k p hk hp).1
          have hW : ∀ d, w.testBit d = true → d < D := fun d hd => by
            rcases Nat.lt_or_ge d D with q | q
            · exact q
            · have : 2 ^ D ≤ 2 ^ d := Nat.pow_le_pow_right (by omega) q
              rw [Nat.testBit_lt_two_pow (by omega)] at hd
              cases hd
          have ew : mk (fun d => w.testBit d = true) D = w := by
            apply tb_c
            intro i
            rw [mk_tb]
            exact ⟨fun q => q.2, fun q => ⟨hW i q, q⟩⟩
          rcases c_cut (w := w) hB' hK (by omega) hC' hF with ⟨S', k1, k2, k3⟩ | ⟨S', r, k1, k2, k3, k4, k5⟩
          · -- no such row
            have e1 : f_LW_add (nI w) S = some (nI 0, wL S' 38 0 (-nI 1 : Int32).toInt64) := by
              rw [f_LW_add_s, f_MK_add_s, f_MK_needPlan_s]
              simp (disch := omega) only [q_le_t, q_le_f, q_lt_t, q_lt_f, q_eq_t, q_eq_f, q_oob, q_cl, q_mul, nI_add, z0, z1, z2, z4, z6, z7, z8, z64, z512, zT, if_b0, if_b1, if_b01, ite_true, ite_false, ↓reduceIte, Option.bind_some, Sum.elim_inl, Sum.elim_inr, ea, h4, c5, k3]
            obtain ⟨S1, hS1⟩ : ∃ S1, S1 = wL S' 38 0 (-nI 1 : Int32).toInt64 := ⟨_, rfl⟩
            rw [← hS1] at e1
            have g1 : ∀ p k, ¬ (27 ≤ p ∧ p < 33) → p ≠ 10 + K → S1.1 p k = S.1 p k := fun p k q1 q2 => by
              rw [hS1, u_1]; exact k1.2 p k (fun h => h.elim q1 q2)
            have g2 : ∀ p k, p ≠ 38 → S1.2 p k = S.2 p k := fun p k q => by rw [hS1, u_n (fun h => q h.1), k1.1]
            have g3 : S1.2 38 0 = (-nI 1 : Int32).toInt64 := by rw [hS1, u_s]
            have hR1 : RQ n m K D st tp br mu (wI S1 33 0 (nI 0)) := RQ_f (fun p k q => by rw [w_n (by omega), g1 p k (by omega) (by omega)]) hR'
            have hc1 : CU n K c (wI S1 33 0 (nI 0)) := fun k p hk hp => by
              rw [w_n (by omega), g1 36 _ (by omega) (by omega)]; exact FP_cu hB' hF k p hk hp
            have hra := r_add_L (W := fun d => w.testBit d = true) hB' hK hcm hW (m ^ n) FU 0 _ (by omega) (by rw [FU_eq]; omega) hR1 hc1 (fun R hR => absurd hR (by omega))
            rw [ew] at hra
            rcases hra with ⟨S2, j1, j2, j3⟩ | ⟨S2, R1, j1, j2, _⟩
            · have e2 : f_RM_add (nI w) S1 = some (-nI 1, S2) := by
                have f4 : S1.1 33 4 = nI D := by rw [g1 33 4 (by omega) (by omega)]; exact r4
                have f3 : S1.1 33 3 = nI K := by rw [g1 33 3 (by omega) (by omega)]; exact r3
                have f9 : S1.1 33 9 = nI 1 := by rw [g1 33 9 (by omega) (by omega)]; exact h9
                rw [f_RM_add_s, f4]
                simp (disch := omega) only [q_le_t, q_le_f, q_lt_t, q_lt_f, q_eq_t, q_eq_f, q_oob, q_cl, q_mul, nI_add, z0, z1, z2, z4, z6, z7, z8, z64, z512, zT, if_b0, if_b1, if_b01, ite_true, ite_false, ↓reduceIte, Option.bind_some, Sum.elim_inl, Sum.elim_inr, i_shl, f9, f3, r_rows hB' hR1, j3]
              have hg : ∀ p k, ¬ (27 ≤ p ∧ p < 33) → p ≠ 10 + K → p ≠ 37 → ¬ (p = 33 ∧ k = 0) → S2.1 p k = S.1 p k := fun p k q1 q2 q3 q4 => by
                rw [j1.2 p k q3, w_n q4, g1 p k q1 q2]
              have hgL : ∀ p k, p ≠ 38 → S2.2 p k = S.2 p k := fun p k q => by rw [j1.1, w_2, g2 p k q]
              refine ⟨nI 0, S1, _, S2, e1, e2, ?_, fun _ => ?_, n, m, K, D, st, tp, br, mu, hB', CQ_f (fun p k q => hg p k (by omega) (by omega) (by omega) (by omega)) (hgL 1 4 (by omega)) hC', RQ_f (fun p k q => hg p k (by omega) (by omega) (by omega) (by omega)) hR', hmu, fun d hd => by rw [hgL 18 d (by omega)]; exact h18 d hd, ?_, ?_, Or.inr ⟨?_, c, ?_⟩⟩
              · rw [j1.2 33 0 (by unfold E37; omega), w_s]
              · rw [j1.1, w_2, g3]
              · rw [hg 3 2 (by omega) (by omega) (by omega) (by omega), hg 33 10 (by omega) (by omega) (by omega) (by omega)]; exact htr
              · rw [hg 0 4 (by omega) (by omega) (by omega) (by omega), hg 33 9 (by omega) (by omega) (by omega) (by omega)]; exact hfd
              · rw [hg 33 9 (by omega) (by omega) (by omega) (by omega)]; exact h9
              · obtain ⟨a1, a2, a3, a4, a5⟩ := hF
                refine ⟨fun k p hk hp => ?_, fun k hk => ?_, fun d hd => ?_, a4, a5⟩
                · obtain ⟨q1, q2, q3⟩ := a1 k p hk hp
                  exact ⟨q1, by rw [hg _ _ (by omega) (by omega) (by omega) (by omega)]; exact q2, by rw [hg _ _ (by omega) (by omega) (by omega) (by omega)]; exact q3⟩
                · rw [hgL _ _ (by omega)]; exact a2 k hk
                · rw [hgL _ _ (by omega)]; exact a3 d hd
            · exact absurd j2 (k2 R1 j1)
          · -- the least row
            have hrm : ∀ p, p < n → r p < m := fun p hp => (k2 p hp).2
            have hnlt : nm m r n < m ^ n := nm_lt hrm
            have hz := (ZR_iff (show 0 < m by omega) hnlt hcm).mp k3
            have hdgr : ∀ p, p < n → dg m n (nm m r n) p = r p := fun p hp => dg_nm (by omega) hrm hp
            have hfitW : ∀ d, d < D → (FitR mu c n K r d ↔ w.testBit d = true) := by
              have h5 := hz.2
              rw [← ew] at h5
              have h6 := mk_i.mp h5
              intro d hd
              rw [← h6 d hd]
              exact fit_c (fun _ _ _ _ => rfl) (fun p hp => (hdgr p hp).symm)
            have hg0 : ∀ p k, ¬ (27 ≤ p ∧ p < 33) → p ≠ 10 + K → S'.1 p k = S.1 p k := fun p k q1 q2 => k1.2 p k (fun h => h.elim q1 q2)
            -- enter
            have hmu0 : ∀ d, ¬ mu K d := fun d q => by have := (hmu K d q).1; omega
            have hC2 : CQ n m K D st tp br (fun k d => (k = K ∧ w.testBit d = true) ∨ mu k d) (wI S' 5 K (nI w)) := by
              refine ⟨?_, ?_, ?_, ?_, ?_, ?_, ?_, fun k hk => ?_⟩
              · rw [w_n (by omega), hg0 _ _ (by omega) (by omega)]; exact c1
              · rw [w_n (by omega), hg0 _ _ (by omega) (by omega)]; exact c2
              · rw [w_n (by omega), hg0 _ _ (by omega) (by omega)]; exact c3
              · rw [w_n (by omega), hg0 _ _ (by omega) (by omega)]; exact c4
              · rw [w_n (by omega), hg0 _ _ (by omega) (by omega)]; exact c5
              · rw [w_n (by omega), hg0 _ _ (by omega) (by omega)]; exact c6
              · rw [w_2, k1.1]; exact c7
              · by_cases q : k = K
                · subst q
                  rw [w_s]
                  exact congrArg nI (ew.symm.trans ((mk_short b6 hW).symm.trans (mk_c (fun i _ => ⟨fun h => Or.inl ⟨rfl, h⟩, fun h => h.elim (fun h => h.2) (fun h => absurd h (hmu0 i))⟩))))
                · rw [w_n (by omega), hg0 _ _ (by omega) (by omega), c8 k hk]
                  congr 1
                  exact mk_c (fun i _ => ⟨fun h => Or.inr h, fun h => h.elim (fun h => absurd h.1 q) id⟩)
            have erow := c_row hB' hC2 hK (r := r) (fun p hp => ⟨by rw [w_n (by omega)]; exact (k2 p hp).1, by have := hrm p hp; omega⟩)
            obtain ⟨T, t1, t2, t3, t4⟩ := c_en_L (D := D) hK b6 D FU 0 (wL (wI S' 5 K (nI w)) 7 K (lN (mk (rb n r) 48))) (by omega) (by rw [FU_eq]; omega) rfl hC2.2.2.2.2.2.1 (fun _ _ _ => rfl) (fun d hd => absurd hd (by omega))
            have f21 : S'.1 2 1 = nI K := by rw [hg0 _ _ (by omega) (by omega)]; exact c5
            have t21 : T.1 2 1 = nI K := by rw [t1, u_1, w_n (by omega)]; exact f21
            have een : f_Board_enter (nI w) S' = some (wI T 2 1 (nI (K + 1))) := by
              rw [f_Board_enter_s, f21]
              simp (disch := omega) only [q_le_t, q_le_f, q_lt_t, q_lt_f, q_eq_t, q_eq_f, q_oob, q_cl, q_mul, nI_add, z0, z1, z2, z4, z6, z7, z8, z64, z512, zT, if_b0, if_b1, if_b01, ite_true, ite_false, ↓reduceIte, Option.bind_some, Sum.elim_inl, Sum.elim_inr, erow, t4, t21]
            have e1 : f_LW_add (nI w) S = some (nI 0, wL (wI T 2 1 (nI (K + 1))) 38 0 (nI K).toInt64) := by
              rw [f_LW_add_s, f_MK_add_s, f_MK_needPlan_s]
              simp (disch := omega) only [q_le_t, q_le_f, q_lt_t, q_lt_f, q_eq_t, q_eq_f, q_oob, q_cl, q_mul, nI_add, z0, z1, z2, z4, z6, z7, z8, z64, z512, zT, if_b0, if_b1, if_b01, ite_true, ite_false, ↓reduceIte, Option.bind_some, Sum.elim_inl, Sum.elim_inr, ea, h4, c5, k5, een, w_s, q_sub]
              rw [show K + 1 - 1 = K by omega]
            obtain ⟨S1, hS1⟩ : ∃ S1, S1 = wL (wI T 2 1 (nI (K + 1))) 38 0 (nI K).toInt64 := ⟨_, rfl⟩
            rw [← hS1] at e1
            have g1 : ∀ p k, ¬ (27 ≤ p ∧ p < 33) → p ≠ 10 + K → ¬ (p = 5 ∧ k = K) → ¬ (p = 2 ∧ k = 1) → S1.1 p k = S.1 p k := fun p k q1 q2 q3 q4 => by
              rw [hS1, u_1, w_n q4, t1, u_1, w_n q3, hg0 p k q1 q2]
            have gK : ∀ k, S1.1 (10 + K) k = S'.1 (10 + K) k := fun k => by
              rw [hS1, u_1, w_n (by omega), t1, u_1, w_n (by omega)]
            have g21 : S1.1 2 1 = nI (K + 1) := by rw [hS1, u_1, w_s]
            have g5 : ∀ k, S1.1 5 k = (wI S' 5 K (nI w)).1 5 k := fun k => by rw [hS1, u_1, w_n (by omega), t1, u_1]
            have g2 : ∀ p k, p ≠ 38 → ¬ (p = 7 ∧ k = K) → p ≠ 18 + (K + 1) → S1.2 p k = S.2 p k := fun p k q1 q2 q3 => by
              rw [hS1, u_n (fun h => q1 h.1), w_2, t2 p k q3, u_n q2, w_2, k1.1]
            have g7 : S1.2 7 K = lN (mk (rb n r) 48) := by rw [hS1, u_n (by omega), w_2, t2 7 K (by omega), u_s]
            have gH : ∀ d, d < D → S1.2 (18 + (K + 1)) d = S.2 (18 + K) d := fun d hd => by
              rw [hS1, u_n (by omega), w_2, t3 d hd, u_n (by omega), w_2, k1.1]
            have g38 : S1.2 38 0 = (nI K).toInt64 := by rw [hS1, u_s]
            have hR1 : RQ n m K D st tp br mu (wI S1 33 0 (nI 0)) := RQ_f (fun p k q => by rw [w_n (by omega), g1 p k (by omega) (by omega) (by omega) (by omega)]) hR'
            have hc1 : CU n K c (wI S1 33 0 (nI 0)) := fun k p hk hp => by
              rw [w_n (by omega), g1 36 _ (by omega) (by omega) (by omega) (by omega)]; exact FP_cu hB' hF k p hk hp
            have hra := r_add_L (W := fun d => w.testBit d = true) hB' hK hcm hW (m ^ n) FU 0 _ (by omega) (by rw [FU_eq]; omega) hR1 hc1 (fun R hR => absurd hR (by omega))
            rw [ew] at hra
            rcases hra with ⟨S2, j1, j2, j3⟩ | ⟨S2, R1, j1, j2, j3, j4, j5, j6, j7, j8⟩
            · exact absurd k3 (j2 _ hnlt)
            · have hRR : R1 = nm m r n := by
                rcases Nat.lt_trichotomy R1 (nm m r n) with q | q | q
                · exact absurd j2 (k4 R1 q)
                · exact q
                · exact absurd k3 (j3 _ q)
              subst hRR
              have e2 : f_RM_add (nI w) S1 = some (nI K, S2) := by
                have f4 : S1.1 33 4 = nI D := by rw [g1 33 4 (by omega) (by omega) (by omega) (by omega)]; exact r4
                have f3 : S1.1 33 3 = nI K := by rw [g1 33 3 (by omega) (by omega) (by omega) (by omega)]; exact r3
                have f9 : S1.1 33 9 = nI 1 := by rw [g1 33 9 (by omega) (by omega) (by omega) (by omega)]; exact h9
                rw [f_RM_add_s, f4]
                simp (disch := omega) only [q_le_t, q_le_f, q_lt_t, q_lt_f, q_eq_t, q_eq_f, q_oob, q_cl, q_mul, nI_add, z0, z1, z2, z4, z6, z7, z8, z64, z512, zT, if_b0, if_b1, if_b01, ite_true, ite_false, ↓reduceIte, Option.bind_some, Sum.elim_inl, Sum.elim_inr, i_shl, f9, f3, r_rows hB' hR1, j4]
              have hg : ∀ p k, ¬ (27 ≤ p ∧ p < 33) → p ≠ 10 + K → ¬ (p = 5 ∧ k = K) → ¬ (p = 2 ∧ k = 1) → p ≠ 37 → ¬ (p = 36 ∧ n * K ≤ k) → ¬ (p = 34 ∧ 6 * K ≤ k ∧ k < 6 * K + 6) → ¬ (p = 33 ∧ (k = 3 ∨ k = 0)) → S2.1 p k = S.1 p k := fun p k q1 q2 q3 q4 q5 q6 q7 q8 => by
                rw [j5.2 p k (by omega), w_n (by omega), g1 p k q1 q2 q3 q4]
              have hS2 : ∀ p k, p < 33 → S2.1 p k = S1.1 p k := fun p k q => by rw [j5.2 p k (by omega), w_n (by omega)]
              have hgL : S2.2 = S1.2 := by rw [j5.1, w_2]
              refine ⟨nI 0, S1, _, S2, e1, e2, ?_, fun _ => ?_, n, m, K + 1, D, st, tp, br, (fun k d => (k = K ∧ w.testBit d = true) ∨ mu k d), ?_, ⟨?_, ?_, ?_, ?_, ?_, ?_, ?_, fun k hk => ?_⟩, ⟨?_, ?_, ?_, ?_, ?_, ?_, fun i j hi hj => ?_, fun k d hk hd => ?_⟩, fun k d q => ?_, fun d hd => ?_, ?_, ?_, Or.inr ⟨?_, (fun k p => if k = K then r p else c k p), ⟨fun k p hk hp => ?_, fun k hk => ?_, fun d hd => ?_, fun k p hk hp => ?_, fun i k hi hk => ?_⟩⟩⟩
              · rw [j5.2 33 0 (by omega), w_s]
              · rw [hgL, g38]
              · unfold BD; omega
              · rw [hg 1 0 (by omega) (by omega) (by omega) (by omega) (by omega) (by omega) (by omega) (by omega), c1]
              · rw [hg 1 1 (by omega) (by omega) (by omega) (by omega) (by omega) (by omega) (by omega) (by omega), c2]
              · rw [hg 1 2 (by omega) (by omega) (by omega) (by omega) (by omega) (by omega) (by omega) (by omega), c3]
              · rw [hg 1 3 (by omega) (by omega) (by omega) (by omega) (by omega) (by omega) (by omega) (by omega), c4]
              · rw [hS2 2 1 (by omega), g21]
              · rw [hg 2 2 (by omega) (by omega) (by omega) (by omega) (by omega) (by omega) (by omega) (by omega), c6]
              · rw [hgL, g2 1 4 (by omega) (by omega) (by omega), c7]
              · rw [hS2 5 k (by omega), g5 k]; exact hC2.2.2.2.2.2.2.2 k hk
              · rw [hg 33 1 (by omega) (by omega) (by omega) (by omega) (by omega) (by omega) (by omega) (by omega), r1]
              · rw [hg 33 2 (by omega) (by omega) (by omega) (by omega) (by omega) (by omega) (by omega) (by omega), r2]
              · exact j6
              · rw [hg 33 4 (by omega) (by omega) (by omega) (by omega) (by omega) (by omega) (by omega) (by omega), r4]
              · rw [hg 33 6 (by omega) (by omega) (by omega) (by omega) (by omega) (by omega) (by omega) (by omega), r6]
              · rw [hg 33 7 (by omega) (by omega) (by omega) (by omega) (by omega) (by omega) (by omega) (by omega), r7]
              · rw [hg 35 _ (by omega) (by omega) (by omega) (by omega) (by omega) (by omega) (by omega) (by omega), r8 i j hi hj]
              · by_cases q : k = K
                · subst q
                  rw [j8 d hd]
                  exact bI_c ⟨fun h => Or.inl ⟨rfl, h⟩, fun h => h.elim (fun h => h.2) (fun h => absurd h (hmu0 d))⟩
                · rw [hg 34 _ (by omega) (by omega) (by omega) (by omega) (by omega) (by omega) (by omega) (by omega), r9 k d hk hd]
                  exact bI_c ⟨fun h => Or.inr h, fun h => h.elim (fun h => absurd h.1 q) id⟩
              · rcases q with ⟨q1, q2⟩ | q
                · exact ⟨by omega, hW d q2⟩
                · have := hmu k d q; omega
              · rw [hgL, g2 18 d (by omega) (by omega) (by omega)]; exact h18 d hd
              · rw [hg 3 2 (by omega) (by omega) (by omega) (by omega) (by omega) (by omega) (by omega) (by omega), hg 33 10 (by omega) (by omega) (by omega) (by omega) (by omega) (by omega) (by omega) (by omega)]; exact htr
              · rw [hg 0 4 (by omega) (by omega) (by omega) (by omega) (by omega) (by omega) (by omega) (by omega), hg 33 9 (by omega) (by omega) (by omega) (by omega) (by omega) (by omega) (by omega) (by omega)]; exact hfd
              · rw [hg 33 9 (by omega) (by omega) (by omega) (by omega) (by omega) (by omega) (by omega) (by omega)]; exact h9
              · by_cases q : k = K
                · subst q
                  simp only [if_true]
                  refine ⟨hrm p hp, ?_, ?_⟩
                  · rw [hS2 _ _ (by omega), gK p]; exact (k2 p hp).1
                  · rw [j7 p hp, hdgr p hp]
                · simp only [q, if_false]
                  have hkK : k < K := by omega
                  obtain ⟨q1, q2, q3⟩ := hF.1 k p hkK hp
                  have hlt := nkp hkK hp
                  refine ⟨q1, ?_, ?_⟩
                  · rw [hg _ _ (by omega) (by omega) (by omega) (by omega) (by omega) (by omega) (by omega) (by omega)]; exact q2
                  · rw [hg _ _ (by omega) (by omega) (by omega) (by omega) (by omega) (by omega) (by omega) (by omega)]; exact q3
              · by_cases q : k = K
                · subst q
                  simp only [if_true]
                  rw [hgL]; exact g7
                · simp only [q, if_false]
                  rw [hgL, g2 7 k (by omega) (by omega) (by omega)]; exact hF.2.1 k (by omega)
              · rw [hgL, gH d hd, hF.2.2.1 d hd]
                congr 1
                apply mk_c
                intro i hi
                unfold hb
                constructor
                · rintro ⟨q1, k', q2, q3, q4⟩
                  refine ⟨q1, k', by omega, Or.inr q3, ?_⟩
                  show (if k' = K then r (i / 8) else c k' (i / 8)) = _
                  rw [if_neg (by omega)]; exact q4
                · rintro ⟨q1, k', q2, q3, q4⟩
                  refine ⟨q1, ?_⟩
                  have q4 : (if k' = K then r (i / 8) else c k' (i / 8)) = i % 8 := q4
                  by_cases q : k' = K
                  · subst q
                    rw [if_pos rfl] at q4
                    rcases q3 with q3 | q3
                    · have h7 := (hfitW d hd).mpr q3.2 (i / 8) q1
                      rw [q4] at h7
                      exact h7
                    · exact absurd q3 (hmu0 d)
                  · rw [if_neg q] at q4
                    rcases q3 with q3 | q3
                    · exact absurd q3.1 q
                    · exact ⟨k', by omega, q3, q4⟩
              · by_cases q : k = K
                · subst q
                  simp only [if_true]
                  have h7 := hz.1.1 p hp
                  rw [hdgr p (by omega), hdgr (p + 1) hp] at h7
                  exact h7
                · simp only [q, if_false]
                  exact hF.2.2.2.1 k p (by omega) hp
              · intro hal
                by_cases q : k = K
                · subst q
                  refine k3.2 i (by omega) (nm_c (fun p hp => ?_))
                  have h7 := hal p hp
                  simp only [if_true] at h7
                  rw [if_neg (by omega)] at h7
                  exact h7
                · refine hF.2.2.2.2 i k hi (by omega) (fun p hp => ?_)
                  have h7 := hal p hp
                  simp only [q, if_false] at h7
                  rw [if_neg (by omega)] at h7
                  exact h7
        · have hK8 : K = 8 := by omega
          subst hK8
          refine st_no (k := 2) (b := nI 0) hI' ?_ ?_ (by omega) (by omega)
          · rw [f_LW_add_s, f_MK_add_s, f_MK_needPlan_s]
            simp (disch := omega) only [q_le_t, q_le_f, q_lt_t, q_lt_f, q_eq_t, q_eq_f, q_oob, q_cl, q_mul, nI_add, z0, z1, z2, z4, z6, z7, z8, z64, z512, zT, if_b0, if_b1, if_b01, ite_true, ite_false, ↓reduceIte, Option.bind_some, Sum.elim_inl, Sum.elim_inr, ea, h4, c5]
            rfl
          · rw [f_RM_add_s, r4]
            simp (disch := omega) only [q_le_t, q_le_f, q_lt_t, q_lt_f, q_eq_t, q_eq_f, q_oob, q_cl, q_mul, nI_add, z0, z1, z2, z4, z6, z7, z8, z64, z512, zT, if_b0, if_b1, if_b01, ite_true, ite_false, ↓reduceIte, Option.bind_some, Sum.elim_inl, Sum.elim_inr, i_shl, h9, r3]
    · refine st_no (k := 1) (b := nI 0) hI' ?_ ?_ (by omega) (by omega)
      · rw [f_LW_add_s, f_MK_add_s]
        simp (disch := omega) only [q_le_t, q_le_f, q_lt_t, q_lt_f, q_eq_t, q_eq_f, q_oob, q_cl, q_mul, nI_add, z0, z1, z2, z4, z6, z7, z8, z64, z512, zT, if_b0, if_b1, if_b01, ite_true, ite_false, ↓reduceIte, Option.bind_some, Sum.elim_inl, Sum.elim_inr, ea]
      · rw [f_RM_add_s, r4]
        simp (disch := omega) only [q_le_t, q_le_f, q_lt_t, q_lt_f, q_eq_t, q_eq_f, q_oob, q_cl, q_mul, nI_add, z0, z1, z2, z4, z6, z7, z8, z64, z512, zT, if_b0, if_b1, if_b01, ite_true, ite_false, ↓reduceIte, Option.bind_some, Sum.elim_inl, Sum.elim_inr, i_shl]
