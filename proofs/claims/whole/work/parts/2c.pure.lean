/-! what a plan shows: cut, holds, fits, wrong, heirs -/
def StP (fC : SS → Option Int32) (fR : SS → Option (Int32 × SS)) (S : SS) : Prop := ∃ b S2, fC S = some b ∧ fR S = some (b, S2) ∧ Inv S2
theorem st_p {fC : SS → Option Int32} {fR : SS → Option (Int32 × SS)} {S : SS} {b : Int32} (hI : Inv S) (e1 : fC S = some b) (e2 : fR S = some (b, wI S 33 0 (nI 0))) : StP fC fR S := by
  obtain ⟨n, m, K, D, st, tp, br, mu, h⟩ := hI
  exact ⟨b, _, e1, e2, n, m, K, D, st, tp, br, mu, IN_f (fun p k q => w_n (by omega)) (fun _ _ _ => rfl) h⟩
theorem s_tries {S : SS} (hI : Inv S) : StP f_MK_tries f_RM_tries S := by
  have hI' := hI
  obtain ⟨n, m, K, D, st, tp, br, mu, hB, hC, hR, hmu, h18, htr, hfd, hpl⟩ := hI
  refine st_p (b := S.1 3 2) hI' ?_ ?_
  · rw [f_MK_tries_s]
  · rw [f_RM_tries_s, htr]; rfl
theorem mk_short {P : Nat → Prop} {D N : Nat} (hD : D ≤ N) (h : ∀ i, P i → i < D) : mk P N = mk P D := by
  apply tb_c; intro i
  rw [mk_tb, mk_tb]
  exact ⟨fun ⟨_, q⟩ => ⟨h i q, q⟩, fun ⟨a, q⟩ => ⟨by omega, q⟩⟩
theorem if_bb {α : Type} (P Q : Prop) (a b : α) : (if bI P = bI Q then a else b) = cif (P ↔ Q) a b := by
  rcases Classical.em P with h | h <;> rcases Classical.em Q with g | g
  · rw [cif_t ⟨fun _ => g, fun _ => h⟩, if_pos (by rw [bI_t h, bI_t g])]
  · rw [cif_f (fun q => g (q.mp h)), if_neg (by rw [bI_t h, bI_f g]; decide)]
  · rw [cif_f (fun q => h (q.mpr g)), if_neg (by rw [bI_f h, bI_t g]; decide)]
  · rw [cif_t ⟨fun q => absurd q h, fun q => absurd q g⟩, if_pos (by rw [bI_f h, bI_f g])]
section Plan
variable {n m K D st tp : Nat} {br mu : Nat → Nat → Prop} {S : SS} {c : Nat → Nat → Nat}
theorem c_dF_L (hB : BD n m K D st tp) (hR : CQ n m K D st tp br mu S) (hw : ∀ d, d < D → S.2 (18 + K) d = lN (mk (hb n mu c K d) 48)) {P : Nat → Prop} : ∀ t N k, k + t = D → t < N → f_Board_doorsFitted_L5 (lN (mk P 48)) N (nI (mk (fun d => ∀ i, i < 48 → P i → hb n mu c K d i) k)) (nI k) S = some (nI (mk (fun d => ∀ i, i < 48 → P i → hb n mu c K d i) D)) := by
  obtain ⟨b1, b2, b3, b4, b5, b6, b7, b8, b9⟩ := hB
  obtain ⟨r1, r2, r3, r4, r5, r6, r7, r8⟩ := hR
  intro t
  induction t with
  | zero =>
    intro N k hk hN; obtain ⟨N, rfl⟩ : ∃ M, N = M + 1 := ⟨N - 1, by omega⟩
    have : k = D := by omega
    subst this
    rw [f_Board_doorsFitted_L5_s]
    simp (disch := omega) only [q_le_t, q_le_f, q_lt_t, q_lt_f, q_eq_t, q_eq_f, q_oob, q_cl, q_mul, nI_add, z0, z1, z2, z4, z6, z7, z8, z64, z512, zT, if_b0, if_b1, if_b01, ite_true, ite_false, ↓reduceIte, Option.bind_some, Sum.elim_inl, Sum.elim_inr, r6]
  | succ t ih =>
    intro N k hk hN; obtain ⟨N, rfl⟩ : ∃ M, N = M + 1 := ⟨N - 1, by omega⟩
    have e := hw k (by omega)
    have ih := ih N (k + 1) (by omega) (by omega)
    rw [f_Board_doorsFitted_L5_s]
    simp (disch := omega) only [q_le_t, q_le_f, q_lt_t, q_lt_f, q_eq_t, q_eq_f, q_oob, q_cl, q_mul, nI_add, z0, z1, z2, z4, z6, z7, z8, z64, z512, zT, if_b0, if_b1, if_b01, ite_true, ite_false, ↓reduceIte, Option.bind_some, Sum.elim_inl, Sum.elim_inr, r5, r6, e, l_in]
    rcases Classical.em (∀ i, i < 48 → P i → hb n mu c K k i) with h | h
    · rw [cif_t h, ← ih, ← i_push (P := fun d => ∀ i, i < 48 → P i → hb n mu c K d i) (by omega) h]
    · rw [cif_f h, ← ih, i_skip (P := fun d => ∀ i, i < 48 → P i → hb n mu c K d i) h]
theorem c_dF (hB : BD n m K D st tp) (hR : CQ n m K D st tp br mu S) (hw : ∀ d, d < D → S.2 (18 + K) d = lN (mk (hb n mu c K d) 48)) {P : Nat → Prop} : f_Board_doorsFitted (lN (mk P 48)) S = some (nI (mk (fun d => ∀ i, i < 48 → P i → hb n mu c K d i) D)) := by
  have h := c_dF_L hB hR hw (P := P) D FU 0 (by omega) (by rw [FU_eq]; have := hB; unfold BD at this; omega)
  rw [f_Board_doorsFitted_s, z0]
  rw [show mk (fun d => ∀ i, i < 48 → P i → hb n mu c K d i) 0 = 0 from rfl] at h
  rw [h]; rfl
theorem c_dO (hB : BD n m K D st tp) (hR : CQ n m K D st tp br mu S) (hF : FP n m K D st tp br mu c S) {k : Nat} (hk : k < K) : f_Board_doorsOf (nI k) S = some (nI (mk (FitR mu c n K (c k)) D)) := by
  have hB' := hB
  obtain ⟨b1, b2, b3, b4, b5, b6, b7, b8, b9⟩ := hB
  have e := hF.2.1 k hk
  have e2 := c_dF hB' hR hF.2.2.1 (P := rb n (c k))
  rw [f_Board_doorsOf_s]
  simp (disch := omega) only [q_le_t, q_le_f, q_lt_t, q_lt_f, q_eq_t, q_eq_f, q_oob, q_cl, q_mul, nI_add, z0, z1, z2, z4, z6, z7, z8, z64, z512, zT, if_b0, if_b1, if_b01, ite_true, ite_false, ↓reduceIte, Option.bind_some, Sum.elim_inl, Sum.elim_inr, e, e2]
  congr 2
  exact mk_c (fun d hd => hb_fit b2 (fun p hp => by have := (hF.1 k p hk hp).1; omega))
theorem c_dH (hB : BD n m K D st tp) (hR : CQ n m K D st tp br mu S) (hF : FP n m K D st tp br mu c S) {p x : Nat} (hp : p < n) (hx : x < 8) : f_Board_doorsHolding (nI p) (nI x) S = some (nI (mk (fun d => Held mu c K d p x) D)) := by
  have hB' := hB
  obtain ⟨b1, b2, b3, b4, b5, b6, b7, b8, b9⟩ := hB
  have e2 := c_dF hB' hR hF.2.2.1 (P := fun i => i = p * 8 + x)
  have eb : f_Board_bit (nI p) (nI x) S = some (lN (mk (fun i => i = p * 8 + x) 48)) := by
    rw [f_Board_bit_s, z8, l_bit (N := 48) (by omega) (by omega)]
  rw [f_Board_doorsHolding_s]
  simp (disch := omega) only [q_le_t, q_le_f, q_lt_t, q_lt_f, q_eq_t, q_eq_f, q_oob, q_cl, q_mul, nI_add, z0, z1, z2, z4, z6, z7, z8, z64, z512, zT, if_b0, if_b1, if_b01, ite_true, ite_false, ↓reduceIte, Option.bind_some, Sum.elim_inl, Sum.elim_inr, eb, e2]
  congr 2
  refine mk_c (fun d hd => ?_)
  constructor
  · intro q
    have := (q (p * 8 + x) (by omega) rfl).2
    rw [show (p * 8 + x) / 8 = p by omega, show (p * 8 + x) % 8 = x by omega] at this
    exact this
  · intro q i hi e
    subst e
    unfold hb
    rw [show (p * 8 + x) / 8 = p by omega, show (p * 8 + x) % 8 = x by omega]
    exact ⟨hp, q⟩
theorem FP_cu (hB : BD n m K D st tp) (hF : FP n m K D st tp br mu c S) : CU n K c S := fun k p hk hp => by
  have := hF.1 k p hk hp
  have h4 := hB.2.2.2.1
  exact ⟨this.2.2, by omega⟩
end Plan
theorem s_cut {S : SS} (hI : Inv S) (a1 a2 : Int32) : StI (f_LW_cut a1 a2) (f_RM_cut a1 a2) S := by
  have hI' := hI
  obtain ⟨n, m, K, D, st, tp, br, mu, hB, hC, hR, hmu, h18, htr, hfd, hpl⟩ := hI
  obtain ⟨b1, b2, b3, b4, b5, b6, b7, b8, b9⟩ := hB
  obtain ⟨c1, c2, c3, c4, c5, c6, c7, c8⟩ := hC
  obtain ⟨r1, r2, r3, r4, r6, r7, r8, r9⟩ := hR
  rcases a_case a1 (show K ≤ 300000 by omega) with ⟨x, hx, rfl⟩ | h
  · rcases a_case a2 (show n ≤ 300000 by omega) with ⟨y, hy, rfl⟩ | h
    · rcases hpl with h9 | ⟨h9, c, hF⟩
      · have h4 : S.1 0 4 = nI 0 := hfd.trans h9
        refine st_ans (x := (-nI 1 : Int32).toInt64) (b := -nI 1) hI' ?_ ?_ rfl
        · rw [f_LW_cut_s, f_MK_cut_s, c_nKey_t c5 hx b5, c_nPin_t c1 hy (by omega)]
          simp (disch := omega) only [q_le_t, q_le_f, q_lt_t, q_lt_f, q_eq_t, q_eq_f, q_oob, q_cl, q_mul, nI_add, z0, z1, z2, z4, z6, z7, z8, z64, z512, zT, if_b0, if_b1, if_b01, ite_true, ite_false, ↓reduceIte, Option.bind_some, Sum.elim_inl, Sum.elim_inr, h4]
        · rw [f_RM_cut_s, r_nKey_t (N := K) (by rw [u_1]; exact r3) hx b5, r_nPin_t (N := n) (by rw [u_1]; exact r1) hy (by omega)]
          simp (disch := omega) only [q_le_t, q_le_f, q_lt_t, q_lt_f, q_eq_t, q_eq_f, q_oob, q_cl, q_mul, nI_add, z0, z1, z2, z4, z6, z7, z8, z64, z512, zT, if_b0, if_b1, if_b01, ite_true, ite_false, ↓reduceIte, Option.bind_some, Sum.elim_inl, Sum.elim_inr, u_1, h9]
      · have h4 : S.1 0 4 = nI 1 := hfd.trans h9
        obtain ⟨q1, q2, q3⟩ := hF.1 x y hx hy
        have := nk_lt b2 (show x < 8 by omega) hy
        refine st_ans (x := (nI (c x y)).toInt64) (b := nI (c x y)) hI' ?_ ?_ rfl
        · rw [f_LW_cut_s, f_MK_cut_s, c_nKey_t c5 hx b5, c_nPin_t c1 hy (by omega)]
          simp (disch := omega) only [q_le_t, q_le_f, q_lt_t, q_lt_f, q_eq_t, q_eq_f, q_oob, q_cl, q_mul, nI_add, z0, z1, z2, z4, z6, z7, z8, z64, z512, zT, if_b0, if_b1, if_b01, ite_true, ite_false, ↓reduceIte, Option.bind_some, Sum.elim_inl, Sum.elim_inr, h4, q2]
        · rw [f_RM_cut_s, r_nKey_t (N := K) (by rw [u_1]; exact r3) hx b5, r_nPin_t (N := n) (by rw [u_1]; exact r1) hy (by omega)]
          simp (disch := omega) only [q_le_t, q_le_f, q_lt_t, q_lt_f, q_eq_t, q_eq_f, q_oob, q_cl, q_mul, nI_add, z0, z1, z2, z4, z6, z7, z8, z64, z512, zT, if_b0, if_b1, if_b01, ite_true, ite_false, ↓reduceIte, Option.bind_some, Sum.elim_inl, Sum.elim_inr, u_1, h9, r1, q3]
    · refine st_no (k := 1) (b := nI 0) hI' ?_ ?_ (by omega) (by omega)
      · rw [f_LW_cut_s, f_MK_cut_s, c_nKey_t c5 hx b5, c_nPin_f c1 h]; rfl
      · rw [f_RM_cut_s, r_nKey_t r3 hx b5, r_nPin_f r1 h]; rfl
  · refine st_no (k := 1) (b := nI 0) hI' ?_ ?_ (by omega) (by omega)
    · rw [f_LW_cut_s, f_MK_cut_s, c_nKey_f c5 h]; rfl
    · rw [f_RM_cut_s, r_nKey_f r3 h]; rfl
theorem s_holds {S : SS} (hI : Inv S) (a1 a2 a3 : Int32) : StB (f_LW_holds a1 a2 a3) (f_RM_holds a1 a2 a3) S := by
  have hI' := hI
  obtain ⟨n, m, K, D, st, tp, br, mu, hB, hC, hR, hmu, h18, htr, hfd, hpl⟩ := hI
  have hB' := hB
  have hC' := hC
  have hR' := hR
  obtain ⟨b1, b2, b3, b4, b5, b6, b7, b8, b9⟩ := hB
  obtain ⟨c1, c2, c3, c4, c5, c6, c7, c8⟩ := hC
  obtain ⟨r1, r2, r3, r4, r6, r7, r8, r9⟩ := hR
  rcases a_case a1 (show D ≤ 300000 by omega) with ⟨x, hx, rfl⟩ | h
  · rcases a_case a2 (show n ≤ 300000 by omega) with ⟨y, hy, rfl⟩ | h
    · rcases a_case a3 (show m ≤ 300000 by omega) with ⟨z, hz, rfl⟩ | h
      · rcases hpl with h9 | ⟨h9, c, hF⟩
        · have h4 : S.1 0 4 = nI 0 := hfd.trans h9
          refine st_ansB (x := 0) (b := nI 0) hI' ?_ ?_ rfl
          · rw [f_LW_holds_s, f_MK_holds_s, c_nDoor_t c6 hx (by omega), c_nPin_t c1 hy (by omega), c_nDepth_t c2 hz b4]
            simp (disch := omega) only [q_le_t, q_le_f, q_lt_t, q_lt_f, q_eq_t, q_eq_f, q_oob, q_cl, q_mul, nI_add, z0, z1, z2, z4, z6, z7, z8, z64, z512, zT, if_b0, if_b1, if_b01, ite_true, ite_false, ↓reduceIte, Option.bind_some, Sum.elim_inl, Sum.elim_inr, h4]
          · rw [f_RM_holds_s, r_nDoor_t (N := D) (by rw [u_1]; exact r4) hx (by omega), r_nPin_t (N := n) (by rw [u_1]; exact r1) hy (by omega), r_nDepth_t (N := m) (by rw [u_1]; exact r2) hz b4]
            simp (disch := omega) only [q_le_t, q_le_f, q_lt_t, q_lt_f, q_eq_t, q_eq_f, q_oob, q_cl, q_mul, nI_add, z0, z1, z2, z4, z6, z7, z8, z64, z512, zT, if_b0, if_b1, if_b01, ite_true, ite_false, ↓reduceIte, Option.bind_some, Sum.elim_inl, Sum.elim_inr, u_1, h9]
        · have h4 : S.1 0 4 = nI 1 := hfd.trans h9
          have e1 := c_dH hB' hC' hF hy (show z < 8 by omega)
          refine st_ansB (x := cif (Held mu c K x y z) 1 0) (b := bI (Held mu c K x y z)) hI' ?_ ?_ (by rw [if_b0])
          · rw [f_LW_holds_s, f_MK_holds_s, c_nDoor_t c6 hx (by omega), c_nPin_t c1 hy (by omega), c_nDepth_t c2 hz b4]
            simp (disch := omega) only [q_le_t, q_le_f, q_lt_t, q_lt_f, q_eq_t, q_eq_f, q_oob, q_cl, q_mul, nI_add, z0, z1, z2, z4, z6, z7, z8, z64, z512, zT, if_b0, if_b1, if_b01, ite_true, ite_false, ↓reduceIte, Option.bind_some, Sum.elim_inl, Sum.elim_inr, h4, e1, if_bit]
            rcases Classical.em (Held mu c K x y z) with h | h
            · rw [cif_t h, cif_t h]
              simp (disch := omega) only [q_le_t, q_le_f, q_lt_t, q_lt_f, q_eq_t, q_eq_f, q_oob, q_cl, q_mul, nI_add, z0, z1, z2, z4, z6, z7, z8, z64, z512, zT, if_b0, if_b1, if_b01, ite_true, ite_false, ↓reduceIte, Option.bind_some, Sum.elim_inl, Sum.elim_inr]
            · rw [cif_f h, cif_f h]
              simp (disch := omega) only [q_le_t, q_le_f, q_lt_t, q_lt_f, q_eq_t, q_eq_f, q_oob, q_cl, q_mul, nI_add, z0, z1, z2, z4, z6, z7, z8, z64, z512, zT, if_b0, if_b1, if_b01, ite_true, ite_false, ↓reduceIte, Option.bind_some, Sum.elim_inl, Sum.elim_inr]
          · rw [f_RM_holds_s, r_nDoor_t (N := D) (by rw [u_1]; exact r4) hx (by omega), r_nPin_t (N := n) (by rw [u_1]; exact r1) hy (by omega), r_nDepth_t (N := m) (by rw [u_1]; exact r2) hz b4]
            have hR2 : RQ n m K D st tp br mu (wI (wL S 38 0 (cif (Held mu c K x y z) 1 0)) 33 0 (nI 0)) := RQ_f (fun p k q => by rw [w_n (by omega)]; rfl) hR'
            have e2 := r_held hB' hR2 (show x < 6 by omega) hy (show z < 8 by omega) b5 (c := c) (fun k p hk hp => by rw [w_n (by omega)]; exact FP_cu hB' hF k p hk hp)
            simp (disch := omega) only [q_le_t, q_le_f, q_lt_t, q_lt_f, q_eq_t, q_eq_f, q_oob, q_cl, q_mul, nI_add, z0, z1, z2, z4, z6, z7, z8, z64, z512, zT, if_b0, if_b1, if_b01, ite_true, ite_false, ↓reduceIte, Option.bind_some, Sum.elim_inl, Sum.elim_inr, u_1, h9, r3, e2]
            rcases Classical.em (Held mu c K x y z) with h | h
            · rw [cif_t h, bI_t h]
            · rw [cif_f h, bI_f h]
      · refine st_noB (k := 1) (b := nI 0) hI' ?_ ?_ (by omega) (by omega)
        · rw [f_LW_holds_s, f_MK_holds_s, c_nDoor_t c6 hx (by omega), c_nPin_t c1 hy (by omega), c_nDepth_f c2 h]; rfl
        · rw [f_RM_holds_s, r_nDoor_t r4 hx (by omega), r_nPin_t r1 hy (by omega), r_nDepth_f r2 h]; rfl
    · refine st_noB (k := 1) (b := nI 0) hI' ?_ ?_ (by omega) (by omega)
      · rw [f_LW_holds_s, f_MK_holds_s, c_nDoor_t c6 hx (by omega), c_nPin_f c1 h]; rfl
      · rw [f_RM_holds_s, r_nDoor_t r4 hx (by omega), r_nPin_f r1 h]; rfl
  · refine st_noB (k := 1) (b := nI 0) hI' ?_ ?_ (by omega) (by omega)
    · rw [f_LW_holds_s, f_MK_holds_s, c_nDoor_f c6 h]; rfl
    · rw [f_RM_holds_s, r_nDoor_f r4 h]; rfl
theorem s_fits {S : SS} (hI : Inv S) (a1 a2 : Int32) : StB (f_LW_fits a1 a2) (f_RM_fits a1 a2) S := by
  have hI' := hI
  obtain ⟨n, m, K, D, st, tp, br, mu, hB, hC, hR, hmu, h18, htr, hfd, hpl⟩ := hI
  have hB' := hB
  have hC' := hC
  have hR' := hR
  obtain ⟨b1, b2, b3, b4, b5, b6, b7, b8, b9⟩ := hB
  obtain ⟨c1, c2, c3, c4, c5, c6, c7, c8⟩ := hC
  obtain ⟨r1, r2, r3, r4, r6, r7, r8, r9⟩ := hR
  rcases a_case a1 (show K ≤ 300000 by omega) with ⟨x, hx, rfl⟩ | h
  · rcases a_case a2 (show D ≤ 300000 by omega) with ⟨y, hy, rfl⟩ | h
    · rcases hpl with h9 | ⟨h9, c, hF⟩
      · have h4 : S.1 0 4 = nI 0 := hfd.trans h9
        refine st_ansB (x := 0) (b := nI 0) hI' ?_ ?_ rfl
        · rw [f_LW_fits_s, f_MK_fits_s, c_nKey_t c5 hx b5, c_nDoor_t c6 hy (by omega)]
          simp (disch := omega) only [q_le_t, q_le_f, q_lt_t, q_lt_f, q_eq_t, q_eq_f, q_oob, q_cl, q_mul, nI_add, z0, z1, z2, z4, z6, z7, z8, z64, z512, zT, if_b0, if_b1, if_b01, ite_true, ite_false, ↓reduceIte, Option.bind_some, Sum.elim_inl, Sum.elim_inr, h4]
        · rw [f_RM_fits_s, r_nKey_t (N := K) (by rw [u_1]; exact r3) hx b5, r_nDoor_t (N := D) (by rw [u_1]; exact r4) hy (by omega)]
          simp (disch := omega) only [q_le_t, q_le_f, q_lt_t, q_lt_f, q_eq_t, q_eq_f, q_oob, q_cl, q_mul, nI_add, z0, z1, z2, z4, z6, z7, z8, z64, z512, zT, if_b0, if_b1, if_b01, ite_true, ite_false, ↓reduceIte, Option.bind_some, Sum.elim_inl, Sum.elim_inr, u_1, h9]
      · have h4 : S.1 0 4 = nI 1 := hfd.trans h9
        have e1 := c_dO hB' hC' hF hx
        refine st_ansB (x := cif (FitR mu c n K (c x) y) 1 0) (b := bI (FitR mu c n K (c x) y)) hI' ?_ ?_ (by rw [if_b0])
        · rw [f_LW_fits_s, f_MK_fits_s, c_nKey_t c5 hx b5, c_nDoor_t c6 hy (by omega)]
          simp (disch := omega) only [q_le_t, q_le_f, q_lt_t, q_lt_f, q_eq_t, q_eq_f, q_oob, q_cl, q_mul, nI_add, z0, z1, z2, z4, z6, z7, z8, z64, z512, zT, if_b0, if_b1, if_b01, ite_true, ite_false, ↓reduceIte, Option.bind_some, Sum.elim_inl, Sum.elim_inr, h4, e1, if_bit]
          rcases Classical.em (FitR mu c n K (c x) y) with h | h
          · rw [cif_t h, cif_t h]
            simp (disch := omega) only [q_le_t, q_le_f, q_lt_t, q_lt_f, q_eq_t, q_eq_f, q_oob, q_cl, q_mul, nI_add, z0, z1, z2, z4, z6, z7, z8, z64, z512, zT, if_b0, if_b1, if_b01, ite_true, ite_false, ↓reduceIte, Option.bind_some, Sum.elim_inl, Sum.elim_inr]
          · rw [cif_f h, cif_f h]
            simp (disch := omega) only [q_le_t, q_le_f, q_lt_t, q_lt_f, q_eq_t, q_eq_f, q_oob, q_cl, q_mul, nI_add, z0, z1, z2, z4, z6, z7, z8, z64, z512, zT, if_b0, if_b1, if_b01, ite_true, ite_false, ↓reduceIte, Option.bind_some, Sum.elim_inl, Sum.elim_inr]
        · rw [f_RM_fits_s, r_nKey_t (N := K) (by rw [u_1]; exact r3) hx b5, r_nDoor_t (N := D) (by rw [u_1]; exact r4) hy (by omega)]
          have hR2 : RQ n m K D st tp br mu (wI (wL S 38 0 (cif (FitR mu c n K (c x) y) 1 0)) 33 0 (nI 0)) := RQ_f (fun p k q => by rw [w_n (by omega)]; rfl) hR'
          have e2 := r_fit hB' hR2 (show y < 6 by omega) hx b5 (c := c) (fun k p hk hp => by rw [w_n (by omega)]; exact FP_cu hB' hF k p hk hp)
          simp (disch := omega) only [q_le_t, q_le_f, q_lt_t, q_lt_f, q_eq_t, q_eq_f, q_oob, q_cl, q_mul, nI_add, z0, z1, z2, z4, z6, z7, z8, z64, z512, zT, if_b0, if_b1, if_b01, ite_true, ite_false, ↓reduceIte, Option.bind_some, Sum.elim_inl, Sum.elim_inr, u_1, h9, r3, e2]
          rcases Classical.em (FitR mu c n K (c x) y) with h | h
          · rw [cif_t h, bI_t h]
          · rw [cif_f h, bI_f h]
    · refine st_noB (k := 1) (b := nI 0) hI' ?_ ?_ (by omega) (by omega)
      · rw [f_LW_fits_s, f_MK_fits_s, c_nKey_t c5 hx b5, c_nDoor_f c6 h]; rfl
      · rw [f_RM_fits_s, r_nKey_t r3 hx b5, r_nDoor_f r4 h]; rfl
  · refine st_noB (k := 1) (b := nI 0) hI' ?_ ?_ (by omega) (by omega)
    · rw [f_LW_fits_s, f_MK_fits_s, c_nKey_f c5 h]; rfl
    · rw [f_RM_fits_s, r_nKey_f r3 h]; rfl
/-! wrong -/
def sm (f : Nat → Nat) : Nat → Nat
  | 0 => 0
  | n + 1 => sm f n + f n
section Wrong
variable {n m K D st tp : Nat} {br mu : Nat → Nat → Prop} {S : SS} {c : Nat → Nat → Nat}
theorem c_wr_L (hB : BD n m K D st tp) (hR : CQ n m K D st tp br mu S) (hmu : ∀ k d, mu k d → k < K ∧ d < D) (hF : FP n m K D st tp br mu c S) : ∀ t N k, k + t = K → t < N → f_MK_wrong_L13 N (nI (sm (fun k => cn (fun d => ¬ (FitR mu c n K (c k) d ↔ mu k d)) D) k)) (nI k) S = some (nI (sm (fun k => cn (fun d => ¬ (FitR mu c n K (c k) d ↔ mu k d)) D) K)) := by
  have hB' := hB
  have hR' := hR
  obtain ⟨b1, b2, b3, b4, b5, b6, b7, b8, b9⟩ := hB
  obtain ⟨r1, r2, r3, r4, r5, r6, r7, r8⟩ := hR
  intro t
  induction t with
  | zero =>
    intro N k hk hN; obtain ⟨N, rfl⟩ : ∃ M, N = M + 1 := ⟨N - 1, by omega⟩
    have : k = K := by omega
    subst this
    rw [f_MK_wrong_L13_s]
    simp (disch := omega) only [q_le_t, q_le_f, q_lt_t, q_lt_f, q_eq_t, q_eq_f, q_oob, q_cl, q_mul, nI_add, z0, z1, z2, z4, z6, z7, z8, z64, z512, zT, if_b0, if_b1, if_b01, ite_true, ite_false, ↓reduceIte, Option.bind_some, Sum.elim_inl, Sum.elim_inr, r5]
  | succ t ih =>
    intro N k hk hN; obtain ⟨N, rfl⟩ : ∃ M, N = M + 1 := ⟨N - 1, by omega⟩
    have e := c_dO hB' hR' hF (show k < K by omega)
    have e2 := r8 k (by omega)
    rw [mk_short b6 (fun i q => (hmu k i q).2)] at e2
    have ih := ih N (k + 1) (by omega) (by omega)
    rw [f_MK_wrong_L13_s]
    simp (disch := omega) only [q_le_t, q_le_f, q_lt_t, q_lt_f, q_eq_t, q_eq_f, q_oob, q_cl, q_mul, nI_add, z0, z1, z2, z4, z6, z7, z8, z64, z512, zT, if_b0, if_b1, if_b01, ite_true, ite_false, ↓reduceIte, Option.bind_some, Sum.elim_inl, Sum.elim_inr, r5, e, e2, i_xor, i_bc]
    exact ih
theorem r_wr28_L (hB : BD n m K D st tp) (hR : RQ n m K D st tp br mu S) (hc : CU n K c S) {k : Nat} (hk : k < K) (x : Nat) : ∀ t N d, d + t = D → t < N → f_RM_wrong_L28 (nI k) N (nI (x + cn (fun d => ¬ (FitR mu c n K (c k) d ↔ mu k d)) d)) (nI d) S = some (nI (x + cn (fun d => ¬ (FitR mu c n K (c k) d ↔ mu k d)) D)) := by
  have hB' := hB
  have hR' := hR
  obtain ⟨b1, b2, b3, b4, b5, b6, b7, b8, b9⟩ := hB
  obtain ⟨r1, r2, r3, r4, r6, r7, r8, r9⟩ := hR
  intro t
  induction t with
  | zero =>
    intro N d hd hN; obtain ⟨N, rfl⟩ : ∃ M, N = M + 1 := ⟨N - 1, by omega⟩
    have : d = D := by omega
    subst this
    rw [f_RM_wrong_L28_s]
    simp (disch := omega) only [q_le_t, q_le_f, q_lt_t, q_lt_f, q_eq_t, q_eq_f, q_oob, q_cl, q_mul, nI_add, z0, z1, z2, z4, z6, z7, z8, z64, z512, zT, if_b0, if_b1, if_b01, ite_true, ite_false, ↓reduceIte, Option.bind_some, Sum.elim_inl, Sum.elim_inr, r4]
  | succ t ih =>
    intro N d hd hN; obtain ⟨N, rfl⟩ : ∃ M, N = M + 1 := ⟨N - 1, by omega⟩
    have e := r_fit hB' hR' (show d < 6 by omega) hk b5 hc
    have e2 := r9 k d (by omega) (by omega)
    have ih := ih N (d + 1) (by omega) (by omega)
    rw [f_RM_wrong_L28_s]
    simp (disch := omega) only [q_le_t, q_le_f, q_lt_t, q_lt_f, q_eq_t, q_eq_f, q_oob, q_cl, q_mul, nI_add, z0, z1, z2, z4, z6, z7, z8, z64, z512, zT, if_b0, if_b1, if_b01, ite_true, ite_false, ↓reduceIte, Option.bind_some, Sum.elim_inl, Sum.elim_inr, r4, r3, e, e2, if_bb]
    rcases Classical.em (FitR mu c n K (c k) d ↔ mu k d) with h | h
    · rw [cif_t h, ← ih]
      show _ = f_RM_wrong_L28 _ _ (nI (x + (cn _ d + bN (¬ (FitR mu c n K (c k) d ↔ mu k d))))) _ _
      rw [bN_f (not_not_intro h), Nat.add_assoc]
    · rw [cif_f h, ← ih]
      show _ = f_RM_wrong_L28 _ _ (nI (x + (cn _ d + bN (¬ (FitR mu c n K (c k) d ↔ mu k d))))) _ _
      rw [bN_t h, Nat.add_assoc]
theorem r_wr_L (hB : BD n m K D st tp) (hR : RQ n m K D st tp br mu S) (hc : CU n K c S) : ∀ t N k, k + t = K → t < N → f_RM_wrong_L18 N (nI (sm (fun k => cn (fun d => ¬ (FitR mu c n K (c k) d ↔ mu k d)) D) k)) (nI k) S = some (nI (sm (fun k => cn (fun d => ¬ (FitR mu c n K (c k) d ↔ mu k d)) D) K)) := by
  have hB' := hB
  have hR' := hR
  obtain ⟨b1, b2, b3, b4, b5, b6, b7, b8, b9⟩ := hB
  obtain ⟨r1, r2, r3, r4, r6, r7, r8, r9⟩ := hR
  intro t
  induction t with
  | zero =>
    intro N k hk hN; obtain ⟨N, rfl⟩ : ∃ M, N = M + 1 := ⟨N - 1, by omega⟩
    have : k = K := by omega
    subst this
    rw [f_RM_wrong_L18_s]
    simp (disch := omega) only [q_le_t, q_le_f, q_lt_t, q_lt_f, q_eq_t, q_eq_f, q_oob, q_cl, q_mul, nI_add, z0, z1, z2, z4, z6, z7, z8, z64, z512, zT, if_b0, if_b1, if_b01, ite_true, ite_false, ↓reduceIte, Option.bind_some, Sum.elim_inl, Sum.elim_inr, r3]
  | succ t ih =>
    intro N k hk hN; obtain ⟨N, rfl⟩ : ∃ M, N = M + 1 := ⟨N - 1, by omega⟩
    have e := r_wr28_L hB' hR' hc (show k < K by omega) (sm (fun k => cn (fun d => ¬ (FitR mu c n K (c k) d ↔ mu k d)) D) k) D FU 0 (by omega) (by rw [FU_eq]; omega)
    have ih := ih N (k + 1) (by omega) (by omega)
    rw [show cn (fun d => ¬ (FitR mu c n K (c k) d ↔ mu k d)) 0 = 0 from rfl, Nat.add_zero] at e
    rw [f_RM_wrong_L18_s]
    simp (disch := omega) only [q_le_t, q_le_f, q_lt_t, q_lt_f, q_eq_t, q_eq_f, q_oob, q_cl, q_mul, nI_add, z0, z1, z2, z4, z6, z7, z8, z64, z512, zT, if_b0, if_b1, if_b01, ite_true, ite_false, ↓reduceIte, Option.bind_some, Sum.elim_inl, Sum.elim_inr, r3, e]
    exact ih
/-! heirs -/
theorem c_he_L (hB : BD n m K D st tp) (hR : CQ n m K D st tp br mu S) (hF : FP n m K D st tp br mu c S) {x : Nat} (hx : x < K) : ∀ t N k, k + t = K → t < N → f_MK_heirs_L23 (nI x) (nI (mk (FitR mu c n K (c x)) D)) N (nI (mk (fun o => ¬ o = x ∧ ∀ d, d < D → FitR mu c n K (c x) d → FitR mu c n K (c o) d) k)) (nI k) S = some (nI (mk (fun o => ¬ o = x ∧ ∀ d, d < D → FitR mu c n K (c x) d → FitR mu c n K (c o) d) K)) := by
  have hB' := hB
  have hR' := hR
  obtain ⟨b1, b2, b3, b4, b5, b6, b7, b8, b9⟩ := hB
  obtain ⟨r1, r2, r3, r4, r5, r6, r7, r8⟩ := hR
  intro t
  induction t with
  | zero =>
    intro N k hk hN; obtain ⟨N, rfl⟩ : ∃ M, N = M + 1 := ⟨N - 1, by omega⟩
    have : k = K := by omega
    subst this
    rw [f_MK_heirs_L23_s]
    simp (disch := omega) only [q_le_t, q_le_f, q_lt_t, q_lt_f, q_eq_t, q_eq_f, q_oob, q_cl, q_mul, nI_add, z0, z1, z2, z4, z6, z7, z8, z64, z512, zT, if_b0, if_b1, if_b01, ite_true, ite_false, ↓reduceIte, Option.bind_some, Sum.elim_inl, Sum.elim_inr, r5]
  | succ t ih =>
    intro N k hk hN; obtain ⟨N, rfl⟩ : ∃ M, N = M + 1 := ⟨N - 1, by omega⟩
    have e := c_dO hB' hR' hF (show k < K by omega)
    have ih := ih N (k + 1) (by omega) (by omega)
    rw [f_MK_heirs_L23_s]
    by_cases hkx : k = x
    · simp (disch := omega) only [q_le_t, q_le_f, q_lt_t, q_lt_f, q_eq_t, q_eq_f, q_oob, q_cl, q_mul, nI_add, z0, z1, z2, z4, z6, z7, z8, z64, z512, zT, if_b0, if_b1, if_b01, ite_true, ite_false, ↓reduceIte, Option.bind_some, Sum.elim_inl, Sum.elim_inr, r5]
      rw [← ih, i_skip (P := fun o => ¬ o = x ∧ ∀ d, d < D → FitR mu c n K (c x) d → FitR mu c n K (c o) d) (fun q => q.1 hkx)]
    · simp (disch := omega) only [q_le_t, q_le_f, q_lt_t, q_lt_f, q_eq_t, q_eq_f, q_oob, q_cl, q_mul, nI_add, z0, z1, z2, z4, z6, z7, z8, z64, z512, zT, if_b0, if_b1, if_b01, ite_true, ite_false, ↓reduceIte, Option.bind_some, Sum.elim_inl, Sum.elim_inr, r5, e]
      rw [show (-nI 1 : Int32) = -1 from rfl, if_sub (by omega)]
      rcases Classical.em (∀ d, d < D → FitR mu c n K (c x) d → FitR mu c n K (c k) d) with h | h
      · rw [cif_t h, ← ih, ← i_push (P := fun o => ¬ o = x ∧ ∀ d, d < D → FitR mu c n K (c x) d → FitR mu c n K (c o) d) (by omega) ⟨hkx, h⟩]
      · rw [cif_f h, ← ih, i_skip (P := fun o => ¬ o = x ∧ ∀ d, d < D → FitR mu c n K (c x) d → FitR mu c n K (c o) d) (fun q => h q.2)]
theorem r_he64_L (hB : BD n m K D st tp) (hR : RQ n m K D st tp br mu S) (hc : CU n K c S) {x k : Nat} (hx : x < K) (hk : k < K) (y : Int32) (A : Prop) : ∀ t N d, d + t = D → t < N → f_RM_heirs_L64 (nI x) y (nI k) N (bI (A ∧ ∀ d', d' < d → FitR mu c n K (c x) d' → FitR mu c n K (c k) d')) (nI d) S = some (bI (A ∧ ∀ d', d' < D → FitR mu c n K (c x) d' → FitR mu c n K (c k) d')) := by
  have hB' := hB
  have hR' := hR
  obtain ⟨b1, b2, b3, b4, b5, b6, b7, b8, b9⟩ := hB
  obtain ⟨r1, r2, r3, r4, r6, r7, r8, r9⟩ := hR
  intro t
  induction t with
  | zero =>
    intro N d hd hN; obtain ⟨N, rfl⟩ : ∃ M, N = M + 1 := ⟨N - 1, by omega⟩
    have : d = D := by omega
    subst this
    rw [f_RM_heirs_L64_s]
    simp (disch := omega) only [q_le_t, q_le_f, q_lt_t, q_lt_f, q_eq_t, q_eq_f, q_oob, q_cl, q_mul, nI_add, z0, z1, z2, z4, z6, z7, z8, z64, z512, zT, if_b0, if_b1, if_b01, ite_true, ite_false, ↓reduceIte, Option.bind_some, Sum.elim_inl, Sum.elim_inr, r4]
  | succ t ih =>
    intro N d hd hN; obtain ⟨N, rfl⟩ : ∃ M, N = M + 1 := ⟨N - 1, by omega⟩
    have e := r_fit hB' hR' (show d < 6 by omega) hx b5 hc
    have e2 := r_fit hB' hR' (show d < 6 by omega) hk b5 hc
    have ih := ih N (d + 1) (by omega) (by omega)
    rw [f_RM_heirs_L64_s]
    simp (disch := omega) only [q_le_t, q_le_f, q_lt_t, q_lt_f, q_eq_t, q_eq_f, q_oob, q_cl, q_mul, nI_add, z0, z1, z2, z4, z6, z7, z8, z64, z512, zT, if_b0, if_b1, if_b01, ite_true, ite_false, ↓reduceIte, Option.bind_some, Sum.elim_inl, Sum.elim_inr, r4, r3, e, e2]
    rcases Classical.em (A ∧ ∀ d', d' < d → FitR mu c n K (c x) d' → FitR mu c n K (c k) d') with h | h
    · rw [cif_t h]
      rcases Classical.em (FitR mu c n K (c x) d) with h1 | h1
      · rw [cif_t h1]
        rcases Classical.em (FitR mu c n K (c k) d) with h2 | h2
        · rw [cif_t h2, ← ih, bI_t (show A ∧ ∀ d', d' < d + 1 → FitR mu c n K (c x) d' → FitR mu c n K (c k) d' from ⟨h.1, all_s.mpr ⟨h.2, fun _ => h2⟩⟩)]
        · rw [cif_f h2, ← ih, bI_f (fun q : A ∧ ∀ d', d' < d + 1 → FitR mu c n K (c x) d' → FitR mu c n K (c k) d' => h2 (q.2 d (by omega) h1))]
      · rw [cif_f h1, ← ih, bI_t (show A ∧ ∀ d', d' < d + 1 → FitR mu c n K (c x) d' → FitR mu c n K (c k) d' from ⟨h.1, all_s.mpr ⟨h.2, fun q => absurd q h1⟩⟩)]
    · rw [cif_f h, ← ih, bI_f (fun q : A ∧ ∀ d', d' < d + 1 → FitR mu c n K (c x) d' → FitR mu c n K (c k) d' => h ⟨q.1, fun d' hd' => q.2 d' (by omega)⟩)]
theorem r_he_L (hB : BD n m K D st tp) (hR : RQ n m K D st tp br mu S) (hc : CU n K c S) {x : Nat} (hx : x < K) : ∀ t N k, k + t = K → t < N → f_RM_heirs_L41 (nI x) N (nI (mk (fun o => ¬ o = x ∧ ∀ d, d < D → FitR mu c n K (c x) d → FitR mu c n K (c o) d) k)) (nI k) S = some (nI (mk (fun o => ¬ o = x ∧ ∀ d, d < D → FitR mu c n K (c x) d → FitR mu c n K (c o) d) K)) := by
  have hB' := hB
  have hR' := hR
  obtain ⟨b1, b2, b3, b4, b5, b6, b7, b8, b9⟩ := hB
  obtain ⟨r1, r2, r3, r4, r6, r7, r8, r9⟩ := hR
  intro t
  induction t with
  | zero =>
    intro N k hk hN; obtain ⟨N, rfl⟩ : ∃ M, N = M + 1 := ⟨N - 1, by omega⟩
    have : k = K := by omega
    subst this
    rw [f_RM_heirs_L41_s]
    simp (disch := omega) only [q_le_t, q_le_f, q_lt_t, q_lt_f, q_eq_t, q_eq_f, q_oob, q_cl, q_mul, nI_add, z0, z1, z2, z4, z6, z7, z8, z64, z512, zT, if_b0, if_b1, if_b01, ite_true, ite_false, ↓reduceIte, Option.bind_some, Sum.elim_inl, Sum.elim_inr, r3]
  | succ t ih =>
    intro N k hk hN; obtain ⟨N, rfl⟩ : ∃ M, N = M + 1 := ⟨N - 1, by omega⟩
    have e := r_he64_L hB' hR' hc hx (show k < K by omega) (nI (mk (fun o => ¬ o = x ∧ ∀ d, d < D → FitR mu c n K (c x) d → FitR mu c n K (c o) d) k)) (¬ k = x) D FU 0 (by omega) (by rw [FU_eq]; omega)
    have ih := ih N (k + 1) (by omega) (by omega)
    rw [f_RM_heirs_L41_s]
    by_cases hkx : k = x
    · rw [bI_f (fun q => q.1 hkx), bI_f (fun q => q.1 hkx)] at e
      simp (disch := omega) only [q_le_t, q_le_f, q_lt_t, q_lt_f, q_eq_t, q_eq_f, q_oob, q_cl, q_mul, nI_add, z0, z1, z2, z4, z6, z7, z8, z64, z512, zT, if_b0, if_b1, if_b01, ite_true, ite_false, ↓reduceIte, Option.bind_some, Sum.elim_inl, Sum.elim_inr, r3, e]
      rw [nx_or, Nat.or_zero, ← ih, i_skip (P := fun o => ¬ o = x ∧ ∀ d, d < D → FitR mu c n K (c x) d → FitR mu c n K (c o) d) (fun q => q.1 hkx)]
    · rw [bI_t (show ¬ k = x ∧ ∀ d', d' < 0 → FitR mu c n K (c x) d' → FitR mu c n K (c k) d' from ⟨hkx, fun d hd => absurd hd (by omega)⟩)] at e
      simp (disch := omega) only [q_le_t, q_le_f, q_lt_t, q_lt_f, q_eq_t, q_eq_f, q_oob, q_cl, q_mul, nI_add, z0, z1, z2, z4, z6, z7, z8, z64, z512, zT, if_b0, if_b1, if_b01, ite_true, ite_false, ↓reduceIte, Option.bind_some, Sum.elim_inl, Sum.elim_inr, r3, e]
      rcases Classical.em (¬ k = x ∧ ∀ d, d < D → FitR mu c n K (c x) d → FitR mu c n K (c k) d) with h | h
      · rw [cif_t h, ← ih, ← i_push (P := fun o => ¬ o = x ∧ ∀ d, d < D → FitR mu c n K (c x) d → FitR mu c n K (c o) d) (by omega) h]
      · rw [cif_f h, nx_or, Nat.or_zero, ← ih, i_skip (P := fun o => ¬ o = x ∧ ∀ d, d < D → FitR mu c n K (c x) d → FitR mu c n K (c o) d) h]
end Wrong
theorem s_wrong {S : SS} (hI : Inv S) : StP f_MK_wrong f_RM_wrong S := by
  have hI' := hI
  obtain ⟨n, m, K, D, st, tp, br, mu, hB, hC, hR, hmu, h18, htr, hfd, hpl⟩ := hI
  have b5 := hB.2.2.2.2.1
  rcases hpl with h9 | ⟨h9, c, hF⟩
  · have h4 : S.1 0 4 = nI 0 := hfd.trans h9
    refine st_p (b := -nI 1) hI' ?_ ?_
    · rw [f_MK_wrong_s]
      simp (disch := omega) only [q_le_t, q_le_f, q_lt_t, q_lt_f, q_eq_t, q_eq_f, q_oob, q_cl, q_mul, nI_add, z0, z1, z2, z4, z6, z7, z8, z64, z512, zT, if_b0, if_b1, if_b01, ite_true, ite_false, ↓reduceIte, Option.bind_some, Sum.elim_inl, Sum.elim_inr, h4]
    · rw [f_RM_wrong_s]
      simp (disch := omega) only [q_le_t, q_le_f, q_lt_t, q_lt_f, q_eq_t, q_eq_f, q_oob, q_cl, q_mul, nI_add, z0, z1, z2, z4, z6, z7, z8, z64, z512, zT, if_b0, if_b1, if_b01, ite_true, ite_false, ↓reduceIte, Option.bind_some, Sum.elim_inl, Sum.elim_inr, h9]
  · have h4 : S.1 0 4 = nI 1 := hfd.trans h9
    have hR2 : RQ n m K D st tp br mu (wI S 33 0 (nI 0)) := RQ_f (fun p k q => by rw [w_n (by omega)]) hR
    have e1 := c_wr_L hB hC hmu hF K FU 0 (by omega) (by rw [FU_eq]; omega)
    have e2 := r_wr_L hB hR2 (c := c) (fun k p hk hp => by rw [w_n (by omega)]; exact FP_cu hB hF k p hk hp) K FU 0 (by omega) (by rw [FU_eq]; omega)
    rw [show sm (fun k => cn (fun d => ¬ (FitR mu c n K (c k) d ↔ mu k d)) D) 0 = 0 from rfl] at e1 e2
    refine st_p (b := nI (sm (fun k => cn (fun d => ¬ (FitR mu c n K (c k) d ↔ mu k d)) D) K)) hI' ?_ ?_
    · rw [f_MK_wrong_s]
      simp (disch := omega) only [q_le_t, q_le_f, q_lt_t, q_lt_f, q_eq_t, q_eq_f, q_oob, q_cl, q_mul, nI_add, z0, z1, z2, z4, z6, z7, z8, z64, z512, zT, if_b0, if_b1, if_b01, ite_true, ite_false, ↓reduceIte, Option.bind_some, Sum.elim_inl, Sum.elim_inr, h4, e1]
    · rw [f_RM_wrong_s]
      simp (disch := omega) only [q_le_t, q_le_f, q_lt_t, q_lt_f, q_eq_t, q_eq_f, q_oob, q_cl, q_mul, nI_add, z0, z1, z2, z4, z6, z7, z8, z64, z512, zT, if_b0, if_b1, if_b01, ite_true, ite_false, ↓reduceIte, Option.bind_some, Sum.elim_inl, Sum.elim_inr, h9, e2]
theorem s_heirs {S : SS} (hI : Inv S) (a : Int32) : StI (f_LW_heirs a) (f_RM_heirs a) S := by
  have hI' := hI
  obtain ⟨n, m, K, D, st, tp, br, mu, hB, hC, hR, hmu, h18, htr, hfd, hpl⟩ := hI
  have b5 := hB.2.2.2.2.1
  have c5 := hC.2.2.2.2.1
  have r3 := hR.2.2.1
  rcases a_case a (show K ≤ 300000 by omega) with ⟨x, hx, rfl⟩ | h
  · rcases hpl with h9 | ⟨h9, c, hF⟩
    · have h4 : S.1 0 4 = nI 0 := hfd.trans h9
      refine st_no (k := 2) (b := nI 0) hI' ?_ ?_ (by omega) (by omega)
      · rw [f_LW_heirs_s, f_MK_heirs_s, c_nKey_t c5 hx b5, f_MK_needPlan_s, if_pos (show S.1 0 4 = 0 from h4)]; rfl
      · rw [f_RM_heirs_s, r_nKey_t r3 hx b5]
        simp (disch := omega) only [q_le_t, q_le_f, q_lt_t, q_lt_f, q_eq_t, q_eq_f, q_oob, q_cl, q_mul, nI_add, z0, z1, z2, z4, z6, z7, z8, z64, z512, zT, if_b0, if_b1, if_b01, ite_true, ite_false, ↓reduceIte, Option.bind_some, Sum.elim_inl, Sum.elim_inr, h9]
    · have h4 : S.1 0 4 = nI 1 := hfd.trans h9
      obtain ⟨B, hBB⟩ : ∃ B, B = nI (mk (fun o => ¬ o = x ∧ ∀ d, d < D → FitR mu c n K (c x) d → FitR mu c n K (c o) d) K) := ⟨_, rfl⟩
      have hR2 : RQ n m K D st tp br mu (wI (wL S 38 0 B.toInt64) 33 0 (nI 0)) := RQ_f (fun p k q => by rw [w_n (by omega)]; rfl) hR
      have e0 := c_dO hB hC hF hx
      have e1 := c_he_L hB hC hF hx K FU 0 (by omega) (by rw [FU_eq]; omega)
      have e2 := r_he_L hB hR2 (c := c) (fun k p hk hp => by rw [w_n (by omega)]; exact FP_cu hB hF k p hk hp) hx K FU 0 (by omega) (by rw [FU_eq]; omega)
      rw [show mk (fun o => ¬ o = x ∧ ∀ d, d < D → FitR mu c n K (c x) d → FitR mu c n K (c o) d) 0 = 0 from rfl, ← hBB] at e1 e2
      refine st_ans (x := B.toInt64) (b := B) hI' ?_ ?_ rfl
      · rw [f_LW_heirs_s, f_MK_heirs_s, c_nKey_t c5 hx b5, f_MK_needPlan_s]
        simp (disch := omega) only [q_le_t, q_le_f, q_lt_t, q_lt_f, q_eq_t, q_eq_f, q_oob, q_cl, q_mul, nI_add, z0, z1, z2, z4, z6, z7, z8, z64, z512, zT, if_b0, if_b1, if_b01, ite_true, ite_false, ↓reduceIte, Option.bind_some, Sum.elim_inl, Sum.elim_inr, h4, e0, e1]
      · rw [f_RM_heirs_s, r_nKey_t (N := K) (by rw [u_1]; exact r3) hx b5]
        simp (disch := omega) only [q_le_t, q_le_f, q_lt_t, q_lt_f, q_eq_t, q_eq_f, q_oob, q_cl, q_mul, nI_add, z0, z1, z2, z4, z6, z7, z8, z64, z512, zT, if_b0, if_b1, if_b01, ite_true, ite_false, ↓reduceIte, Option.bind_some, Sum.elim_inl, Sum.elim_inr, u_1, h9, e2]
  · refine st_no (k := 1) (b := nI 0) hI' ?_ ?_ (by omega) (by omega)
    · rw [f_LW_heirs_s, f_MK_heirs_s, c_nKey_f c5 h]; rfl
    · rw [f_RM_heirs_s, r_nKey_f r3 h]; rfl
