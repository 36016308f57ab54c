/-! must, bar -/
def put2 (f : Nat → Nat → Prop) (x y : Nat) (on : Prop) : Nat → Nat → Prop := fun i j => (i = x ∧ j = y ∧ on) ∨ (¬ (i = x ∧ j = y) ∧ f i j)
theorem put2_s {f : Nat → Nat → Prop} {x y : Nat} {on : Prop} : put2 f x y on x y ↔ on := by
  unfold put2
  constructor
  · rintro (⟨_, _, h⟩ | ⟨h, _⟩)
    · exact h
    · exact absurd ⟨rfl, rfl⟩ h
  · intro h; exact Or.inl ⟨rfl, rfl, h⟩
theorem put2_n {f : Nat → Nat → Prop} {x y i j : Nat} {on : Prop} (h : ¬ (i = x ∧ j = y)) : put2 f x y on i j ↔ f i j := by
  unfold put2
  constructor
  · rintro (⟨a, b, _⟩ | ⟨_, g⟩)
    · exact absurd ⟨a, b⟩ h
    · exact g
  · intro g; exact Or.inr ⟨h, g⟩
theorem narB (on : Prop) : vp_nar .boolean (bI on) = bI on := by
  rcases Classical.em on with h | h
  · rw [bI_t h, nar1]
  · rw [bI_f h, nar0]
theorem cif_ap {α β : Type} (P : Prop) (f : α → β) (a b : α) : cif P (f a) (f b) = f (cif P a b) := by
  rcases Classical.em P with h | h
  · rw [cif_t h, cif_t h]
  · rw [cif_f h, cif_f h]
theorem c_tell {n m K D st tp : Nat} {br mu : Nat → Nat → Prop} {S : SS} (hR : CQ n m K D st tp br mu S) {x y : Nat} (hx : x < 8) (hy : y < 6) (on : Prop) : f_Board_tell (nI x) (nI y) (bI on) S = some (wI S 5 x (nI (mk (put2 mu x y on x) 6))) := by
  have e := hR.2.2.2.2.2.2.2 x hx
  rw [f_Board_tell_s]
  simp (disch := omega) only [q_le_t, q_le_f, q_lt_t, q_lt_f, q_eq_t, q_eq_f, q_oob, q_cl, q_mul, nI_add, z0, z1, z2, z4, z6, z7, z8, z64, z512, zT, if_b0, if_b1, if_b01, ite_true, ite_false, ↓reduceIte, Option.bind_some, Sum.elim_inl, Sum.elim_inr, e, i_set, i_clr]
  rcases Classical.em on with h | h
  · rw [cif_t h]
    congr 3
    apply mk_c
    intro i hi
    by_cases q : i = y
    · subst q
      rw [put2_s]; exact ⟨fun _ => h, fun _ => Or.inr rfl⟩
    · rw [put2_n (by omega)]; exact ⟨fun q2 => q2.elim id (fun q3 => absurd q3 q), Or.inl⟩
  · rw [cif_f h, show (-nI 1 : Int32) = -1 from rfl, i_clr hy (by omega)]
    congr 3
    apply mk_c
    intro i hi
    by_cases q : i = y
    · subst q
      rw [put2_s]; exact ⟨fun q2 => absurd rfl q2.2, fun q2 => absurd q2 h⟩
    · rw [put2_n (by omega)]; exact ⟨fun q2 => q2.1, fun q2 => ⟨q2, q⟩⟩
theorem s_must {S : SS} (hI : Inv S) (a1 a2 : Int32) (on : Prop) : StB (f_LW_must a1 a2 (bI on)) (f_RM_must a1 a2 (bI on)) S := by
  have hI' := hI
  obtain ⟨n, m, K, D, st, tp, br, mu, hB, hC, hR, hmu, h18, htr, hfd, hpl⟩ := hI
  have hB' := hB
  have hC' := hC
  obtain ⟨b1, b2, b3, b4, b5, b6, b7, b8, b9⟩ := hB
  obtain ⟨c1, c2, c3, c4, c5, c6, c7, c8⟩ := hC
  obtain ⟨r1, r2, r3, r4, r6, r7, r8, r9⟩ := hR
  rcases a_case a1 (show K ≤ 300000 by omega) with ⟨x, hx, rfl⟩ | h
  · rcases a_case a2 (show D ≤ 300000 by omega) with ⟨y, hy, rfl⟩ | h
    · have hC0 : CQ n m K D st tp br mu (wI S 0 4 (nI 0)) := CQ_f (fun p k q => w_n (by omega)) rfl hC'
      have e1 : f_LW_must (nI x) (nI y) (bI on) S = some (nI 0, wL (wI (wI S 0 4 (nI 0)) 5 x (nI (mk (put2 mu x y on x) 6))) 38 0 (cif (mu x y) 1 0)) := by
        rw [f_LW_must_s, f_MK_must_s, c_nKey_t c5 hx b5, c_nDoor_t c6 hy (by omega)]
        simp (disch := omega) only [q_le_t, q_le_f, q_lt_t, q_lt_f, q_eq_t, q_eq_f, q_oob, q_cl, q_mul, nI_add, z0, z1, z2, z4, z6, z7, z8, z64, z512, zT, if_b0, if_b1, if_b01, ite_true, ite_false, ↓reduceIte, Option.bind_some, Sum.elim_inl, Sum.elim_inr, c_mo hC0 (show x < 8 by omega) (show y < 6 by omega), c_tell hC0 (show x < 8 by omega) (show y < 6 by omega) on]
        rcases Classical.em (mu x y) with h | h
        · rw [cif_t h, cif_t h]
        · rw [cif_f h, cif_f h]
      have r9' := r9 x y (by omega) (by omega)
      have e2 : f_RM_must (nI x) (nI y) (bI on) (wL (wI (wI S 0 4 (nI 0)) 5 x (nI (mk (put2 mu x y on x) 6))) 38 0 (cif (mu x y) 1 0)) = some (bI (mu x y), wI (wI (wI (wL (wI (wI S 0 4 (nI 0)) 5 x (nI (mk (put2 mu x y on x) 6))) 38 0 (cif (mu x y) 1 0)) 33 0 (nI 0)) 34 (6 * x + y) (bI on)) 33 9 (nI 0)) := by
        rw [f_RM_must_s, r_nKey_t (N := K) (by rw [u_1, w_n (by omega), w_n (by omega)]; exact r3) hx b5]
        simp (disch := omega) only [q_le_t, q_le_f, q_lt_t, q_lt_f, q_eq_t, q_eq_f, q_oob, q_cl, q_mul, nI_add, z0, z1, z2, z4, z6, z7, z8, z64, z512, zT, if_b0, if_b1, if_b01, ite_true, ite_false, ↓reduceIte, Option.bind_some, Sum.elim_inl, Sum.elim_inr]
        rw [r_nDoor_t (N := D) (by rw [u_1, w_n (by omega), w_n (by omega)]; exact r4) hy (by omega)]
        simp (disch := omega) only [q_le_t, q_le_f, q_lt_t, q_lt_f, q_eq_t, q_eq_f, q_oob, q_cl, q_mul, nI_add, z0, z1, z2, z4, z6, z7, z8, z64, z512, zT, if_b0, if_b1, if_b01, ite_true, ite_false, ↓reduceIte, Option.bind_some, Sum.elim_inl, Sum.elim_inr, u_1, w_n, r9', narB]
      obtain ⟨S1, hS1⟩ : ∃ S1, S1 = wL (wI (wI S 0 4 (nI 0)) 5 x (nI (mk (put2 mu x y on x) 6))) 38 0 (cif (mu x y) 1 0) := ⟨_, rfl⟩
      have g1 : ∀ p k, ¬ (p = 0 ∧ k = 4) → ¬ (p = 5 ∧ k = x) → S1.1 p k = S.1 p k := fun p k q1 q2 => by rw [hS1, u_1, w_n q2, w_n q1]
      have g2 : ∀ p k, p ≠ 38 → S1.2 p k = S.2 p k := fun p k q => by rw [hS1, u_n (fun h => q h.1)]; rfl
      have g3 : S1.1 0 4 = nI 0 := by rw [hS1, u_1, w_n (by omega), w_s]
      have g4 : S1.1 5 x = nI (mk (put2 mu x y on x) 6) := by rw [hS1, u_1, w_s]
      have g5 : S1.2 38 0 = cif (mu x y) 1 0 := by rw [hS1, u_s]
      rw [← hS1] at e1 e2
      have g : ∀ p k, ¬ (p = 0 ∧ k = 4) → ¬ (p = 5 ∧ k = x) → ¬ (p = 34 ∧ k = 6 * x + y) → ¬ (p = 33 ∧ (k = 0 ∨ k = 9)) → (wI (wI (wI S1 33 0 (nI 0)) 34 (6 * x + y) (bI on)) 33 9 (nI 0)).1 p k = S.1 p k := fun p k q1 q2 q3 q4 => by
        rw [w_n (by omega), w_n (by omega), w_n (by omega), g1 p k q1 q2]
      refine ⟨nI 0, S1, _, _, e1, e2, ?_, fun _ => ?_, n, m, K, D, st, tp, br, put2 mu x y on, hB', ⟨?_, ?_, ?_, ?_, ?_, ?_, ?_, fun k hk => ?_⟩, ⟨?_, ?_, ?_, ?_, ?_, ?_, fun i j hi hj => ?_, fun k d hk hd => ?_⟩, fun k d q => ?_, fun d hd => ?_, ?_, ?_, Or.inl w_s⟩
      · rw [w_n (by omega), w_n (by omega), w_s]
      · rw [w_2, w_2, w_2, g5, if_b0]
      · rw [g 1 0 (by omega) (by omega) (by omega) (by omega), c1]
      · rw [g 1 1 (by omega) (by omega) (by omega) (by omega), c2]
      · rw [g 1 2 (by omega) (by omega) (by omega) (by omega), c3]
      · rw [g 1 3 (by omega) (by omega) (by omega) (by omega), c4]
      · rw [g 2 1 (by omega) (by omega) (by omega) (by omega), c5]
      · rw [g 2 2 (by omega) (by omega) (by omega) (by omega), c6]
      · rw [w_2, w_2, w_2, g2 1 4 (by omega), c7]
      · by_cases q : k = x
        · subst q
          rw [w_n (by omega), w_n (by omega), w_n (by omega), g4]
        · rw [g 5 k (by omega) (by omega) (by omega) (by omega), c8 k hk]
          congr 1
          exact mk_c (fun i hi => (put2_n (by omega)).symm)
      · rw [g 33 1 (by omega) (by omega) (by omega) (by omega), r1]
      · rw [g 33 2 (by omega) (by omega) (by omega) (by omega), r2]
      · rw [g 33 3 (by omega) (by omega) (by omega) (by omega), r3]
      · rw [g 33 4 (by omega) (by omega) (by omega) (by omega), r4]
      · rw [g 33 6 (by omega) (by omega) (by omega) (by omega), r6]
      · rw [g 33 7 (by omega) (by omega) (by omega) (by omega), r7]
      · rw [g 35 _ (by omega) (by omega) (by omega) (by omega), r8 i j hi hj]
      · by_cases q : k = x ∧ d = y
        · obtain ⟨q1, q2⟩ := q
          subst q1
          subst q2
          rw [w_n (by omega), w_s]
          exact bI_c put2_s.symm
        · rw [g 34 _ (by omega) (by omega) (by omega) (by omega), r9 k d hk hd]
          exact bI_c (put2_n q).symm
      · rcases q with ⟨q1, q2, _⟩ | ⟨_, q⟩
        · omega
        · exact hmu k d q
      · rw [w_2, w_2, w_2, g2 18 d (by omega)]; exact h18 d hd
      · rw [g 3 2 (by omega) (by omega) (by omega) (by omega), g 33 10 (by omega) (by omega) (by omega) (by omega)]; exact htr
      · rw [w_n (by omega), w_n (by omega), w_n (by omega), g3, w_s]
    · refine st_noB (k := 1) (b := nI 0) hI' ?_ ?_ (by omega) (by omega)
      · rw [f_LW_must_s, f_MK_must_s, c_nKey_t c5 hx b5, c_nDoor_f c6 h]; rfl
      · rw [f_RM_must_s, r_nKey_t r3 hx b5, r_nDoor_f r4 h]; rfl
  · refine st_noB (k := 1) (b := nI 0) hI' ?_ ?_ (by omega) (by omega)
    · rw [f_LW_must_s, f_MK_must_s, c_nKey_f c5 h]; rfl
    · rw [f_RM_must_s, r_nKey_f r3 h]; rfl
theorem c_setb {n m K D st tp : Nat} {br mu : Nat → Nat → Prop} {S : SS} (hR : CQ n m K D st tp br mu S) {x y : Nat} (hx : x < 8) (hy : y < 8) (on : Prop) : f_Law_setBarred (nI x) (nI y) (bI on) S = some (wL S 1 4 (lN (mk (fun i => put2 br x y on (i / 8) (i % 8)) 64))) := by
  have e := hR.2.2.2.2.2.2.1
  have ep : f_Law_pairBit (nI x) (nI y) S = some (lN (mk (fun i => i = x * 8 + y) 64)) := by
    rw [f_Law_pairBit_s, z8, l_bit (N := 64) (by omega) (by omega)]
  rw [f_Law_setBarred_s]
  simp (disch := omega) only [q_le_t, q_le_f, q_lt_t, q_lt_f, q_eq_t, q_eq_f, q_oob, q_cl, q_mul, nI_add, z0, z1, z2, z4, z6, z7, z8, z64, z512, zT, if_b0, if_b1, if_b01, ite_true, ite_false, ↓reduceIte, Option.bind_some, Sum.elim_inl, Sum.elim_inr, e, ep]
  have hd : ∀ i, i = x * 8 + y ↔ (i / 8 = x ∧ i % 8 = y) := fun i => by omega
  rcases Classical.em on with h | h
  · rw [cif_t h, l_or]
    congr 3
    apply mk_c
    intro i hi
    by_cases q : i / 8 = x ∧ i % 8 = y
    · rw [q.1, q.2, put2_s]; exact ⟨fun _ => h, fun _ => Or.inr ((hd i).mpr q)⟩
    · rw [put2_n q]; exact ⟨fun q2 => q2.elim id (fun q3 => absurd ((hd i).mp q3) q), Or.inl⟩
  · rw [cif_f h, ym1, lx_xor, lx_and, mk_andn _ _ (by omega)]
    congr 3
    apply mk_c
    intro i hi
    by_cases q : i / 8 = x ∧ i % 8 = y
    · rw [q.1, q.2, put2_s]; exact ⟨fun q2 => absurd ((hd i).mpr q) q2.2, fun q2 => absurd q2 h⟩
    · rw [put2_n q]; exact ⟨fun q2 => q2.1, fun q2 => ⟨q2, fun q3 => q ((hd i).mp q3)⟩⟩
theorem s_bar {S : SS} (hI : Inv S) (a1 a2 : Int32) (on : Prop) : StB (f_LW_bar a1 a2 (bI on)) (f_RM_bar a1 a2 (bI on)) S := by
  have hI' := hI
  obtain ⟨n, m, K, D, st, tp, br, mu, hB, hC, hR, hmu, h18, htr, hfd, hpl⟩ := hI
  have hB' := hB
  have hC' := hC
  obtain ⟨b1, b2, b3, b4, b5, b6, b7, b8, b9⟩ := hB
  obtain ⟨c1, c2, c3, c4, c5, c6, c7, c8⟩ := hC
  obtain ⟨r1, r2, r3, r4, r6, r7, r8, r9⟩ := hR
  rcases a_case a1 (show m ≤ 300000 by omega) with ⟨x, hx, rfl⟩ | h
  · rcases a_case a2 (show m ≤ 300000 by omega) with ⟨y, hy, rfl⟩ | h
    · have hC0 : CQ n m K D st tp br mu (wI S 0 4 (nI 0)) := CQ_f (fun p k q => w_n (by omega)) rfl hC'
      have e1 : f_LW_bar (nI x) (nI y) (bI on) S = some (nI 0, wL (wL (wI S 0 4 (nI 0)) 1 4 (lN (mk (fun i => put2 br x y on (i / 8) (i % 8)) 64))) 38 0 (cif (br x y) 1 0)) := by
        rw [f_LW_bar_s, f_MK_bar_s, c_nDepth_t c2 hx b4, c_nDepth_t c2 hy b4]
        simp (disch := omega) only [q_le_t, q_le_f, q_lt_t, q_lt_f, q_eq_t, q_eq_f, q_oob, q_cl, q_mul, nI_add, z0, z1, z2, z4, z6, z7, z8, z64, z512, zT, if_b0, if_b1, if_b01, ite_true, ite_false, ↓reduceIte, Option.bind_some, Sum.elim_inl, Sum.elim_inr, c_bar hC0 (show x < 8 by omega) (show y < 8 by omega), c_setb hC0 (show x < 8 by omega) (show y < 8 by omega) on]
        rcases Classical.em (br x y) with h | h
        · rw [cif_t h, cif_t h]
        · rw [cif_f h, cif_f h]
      have r8' := r8 x y (by omega) (by omega)
      have e2 : f_RM_bar (nI x) (nI y) (bI on) (wL (wL (wI S 0 4 (nI 0)) 1 4 (lN (mk (fun i => put2 br x y on (i / 8) (i % 8)) 64))) 38 0 (cif (br x y) 1 0)) = some (bI (br x y), wI (wI (wI (wL (wL (wI S 0 4 (nI 0)) 1 4 (lN (mk (fun i => put2 br x y on (i / 8) (i % 8)) 64))) 38 0 (cif (br x y) 1 0)) 33 0 (nI 0)) 35 (8 * x + y) (bI on)) 33 9 (nI 0)) := by
        rw [f_RM_bar_s, r_nDepth_t (N := m) (by rw [u_1, u_1, w_n (by omega)]; exact r2) hx b4]
        simp (disch := omega) only [q_le_t, q_le_f, q_lt_t, q_lt_f, q_eq_t, q_eq_f, q_oob, q_cl, q_mul, nI_add, z0, z1, z2, z4, z6, z7, z8, z64, z512, zT, if_b0, if_b1, if_b01, ite_true, ite_false, ↓reduceIte, Option.bind_some, Sum.elim_inl, Sum.elim_inr]
        rw [r_nDepth_t (N := m) (by rw [u_1, u_1, w_n (by omega)]; exact r2) hy b4]
        simp (disch := omega) only [q_le_t, q_le_f, q_lt_t, q_lt_f, q_eq_t, q_eq_f, q_oob, q_cl, q_mul, nI_add, z0, z1, z2, z4, z6, z7, z8, z64, z512, zT, if_b0, if_b1, if_b01, ite_true, ite_false, ↓reduceIte, Option.bind_some, Sum.elim_inl, Sum.elim_inr, u_1, w_n, r8', narB]
      obtain ⟨S1, hS1⟩ : ∃ S1, S1 = wL (wL (wI S 0 4 (nI 0)) 1 4 (lN (mk (fun i => put2 br x y on (i / 8) (i % 8)) 64))) 38 0 (cif (br x y) 1 0) := ⟨_, rfl⟩
      have g1 : ∀ p k, ¬ (p = 0 ∧ k = 4) → S1.1 p k = S.1 p k := fun p k q1 => by rw [hS1, u_1, u_1, w_n q1]
      have g2 : ∀ p k, p ≠ 38 → p ≠ 1 → S1.2 p k = S.2 p k := fun p k q q2 => by rw [hS1, u_n (fun h => q h.1), u_n (fun h => q2 h.1)]; rfl
      have g3 : S1.1 0 4 = nI 0 := by rw [hS1, u_1, u_1, w_s]
      have g4 : S1.2 1 4 = lN (mk (fun i => put2 br x y on (i / 8) (i % 8)) 64) := by rw [hS1, u_n (by omega), u_s]
      have g5 : S1.2 38 0 = cif (br x y) 1 0 := by rw [hS1, u_s]
      rw [← hS1] at e1 e2
      have g : ∀ p k, ¬ (p = 0 ∧ k = 4) → ¬ (p = 35 ∧ k = 8 * x + y) → ¬ (p = 33 ∧ (k = 0 ∨ k = 9)) → (wI (wI (wI S1 33 0 (nI 0)) 35 (8 * x + y) (bI on)) 33 9 (nI 0)).1 p k = S.1 p k := fun p k q1 q3 q4 => by
        rw [w_n (by omega), w_n (by omega), w_n (by omega), g1 p k q1]
      refine ⟨nI 0, S1, _, _, e1, e2, ?_, fun _ => ?_, n, m, K, D, st, tp, put2 br x y on, mu, hB', ⟨?_, ?_, ?_, ?_, ?_, ?_, ?_, fun k hk => ?_⟩, ⟨?_, ?_, ?_, ?_, ?_, ?_, fun i j hi hj => ?_, fun k d hk hd => ?_⟩, hmu, fun d hd => ?_, ?_, ?_, Or.inl w_s⟩
      · rw [w_n (by omega), w_n (by omega), w_s]
      · rw [w_2, w_2, w_2, g5, if_b0]
      · rw [g 1 0 (by omega) (by omega) (by omega), c1]
      · rw [g 1 1 (by omega) (by omega) (by omega), c2]
      · rw [g 1 2 (by omega) (by omega) (by omega), c3]
      · rw [g 1 3 (by omega) (by omega) (by omega), c4]
      · rw [g 2 1 (by omega) (by omega) (by omega), c5]
      · rw [g 2 2 (by omega) (by omega) (by omega), c6]
      · rw [w_2, w_2, w_2, g4]
      · rw [g 5 k (by omega) (by omega) (by omega), c8 k hk]
      · rw [g 33 1 (by omega) (by omega) (by omega), r1]
      · rw [g 33 2 (by omega) (by omega) (by omega), r2]
      · rw [g 33 3 (by omega) (by omega) (by omega), r3]
      · rw [g 33 4 (by omega) (by omega) (by omega), r4]
      · rw [g 33 6 (by omega) (by omega) (by omega), r6]
      · rw [g 33 7 (by omega) (by omega) (by omega), r7]
      · by_cases q : i = x ∧ j = y
        · obtain ⟨q1, q2⟩ := q
          subst q1
          subst q2
          rw [w_n (by omega), w_s]
          exact bI_c put2_s.symm
        · rw [g 35 _ (by omega) (by omega) (by omega), r8 i j hi hj]
          exact bI_c (put2_n q).symm
      · rw [g 34 _ (by omega) (by omega) (by omega), r9 k d hk hd]
      · rw [w_2, w_2, w_2, g2 18 d (by omega) (by omega)]; exact h18 d hd
      · rw [g 3 2 (by omega) (by omega) (by omega), g 33 10 (by omega) (by omega) (by omega)]; exact htr
      · rw [w_n (by omega), w_n (by omega), w_n (by omega), g3, w_s]
    · refine st_noB (k := 1) (b := nI 0) hI' ?_ ?_ (by omega) (by omega)
      · rw [f_LW_bar_s, f_MK_bar_s, c_nDepth_t c2 hx b4, c_nDepth_f c2 h]; rfl
      · rw [f_RM_bar_s, r_nDepth_t r2 hx b4, r_nDepth_f r2 h]; rfl
  · refine st_noB (k := 1) (b := nI 0) hI' ?_ ?_ (by omega) (by omega)
    · rw [f_LW_bar_s, f_MK_bar_s, c_nDepth_f c2 h]; rfl
    · rw [f_RM_bar_s, r_nDepth_f r2 h]; rfl
