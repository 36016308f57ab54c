/-! the law's loop answers true -/
theorem h_I {fL fR : SS → Option (Int32 × SS)} {S : SS} (k : SS → Option Int32) (h : StI fL fR S) (hk : ∀ S2, Inv S2 → k S2 = some 1) :
    ((fL S).bind fun o2 => (fR o2.2).bind fun o3 => (f_RM_thrown o3.2).bind fun o4 => if o4 = o2.1 then (if o2.1 = 0 then (if oob (0 : Int32) 1 then none else if (lg_cmp (o3.2.2 38 (0 : Int32).toNatClampNeg) o3.1.toInt64) = 0 then k o3.2 else some (0 : Int32)) else k o3.2) else some (0 : Int32)) = some 1 := by
  obtain ⟨c, S1, b, S2, e1, e2, e3, e4, e5⟩ := h
  rw [e1]
  simp only [Option.bind_some]
  rw [e2]
  simp only [Option.bind_some]
  rw [f_RM_thrown_s, e3]
  simp only [Option.bind_some]
  rw [if_pos trivial]
  by_cases h0 : c = 0
  · rw [if_pos h0, if_neg (by decide +kernel), if_pos]
    · exact hk S2 e5
    · have := e4 h0
      rw [show (0 : Int32).toNatClampNeg = 0 from rfl, this]
      exact (l_cmp _ _).mpr rfl
  · rw [if_neg h0]; exact hk S2 e5
theorem h_B {fL fR : SS → Option (Int32 × SS)} {S : SS} (k : SS → Option Int32) (h : StB fL fR S) (hk : ∀ S2, Inv S2 → k S2 = some 1) :
    ((fL S).bind fun o2 => (fR o2.2).bind fun o3 => (f_RM_thrown o3.2).bind fun o4 => if o4 = o2.1 then (if o2.1 = 0 then (if oob (0 : Int32) 1 then none else if o3.1 = 0 then (if (lg_cmp (o3.2.2 38 (0 : Int32).toNatClampNeg) (0 : Int64)) = 0 then k o3.2 else some (0 : Int32)) else if (lg_cmp (o3.2.2 38 (0 : Int32).toNatClampNeg) (1 : Int64)) = 0 then k o3.2 else some (0 : Int32)) else k o3.2) else some (0 : Int32)) = some 1 := by
  obtain ⟨c, S1, b, S2, e1, e2, e3, e4, e5⟩ := h
  rw [e1]
  simp only [Option.bind_some]
  rw [e2]
  simp only [Option.bind_some]
  rw [f_RM_thrown_s, e3]
  simp only [Option.bind_some]
  rw [if_pos trivial]
  by_cases h0 : c = 0
  · rw [if_pos h0, if_neg (by decide +kernel), show (0 : Int32).toNatClampNeg = 0 from rfl, e4 h0]
    by_cases hb : b = 0
    · rw [if_pos hb, if_pos (show b = nI 0 from hb), if_pos (show lg_cmp 0 0 = 0 from (l_cmp _ _).mpr rfl)]; exact hk S2 e5
    · rw [if_neg hb, if_neg (show ¬ b = nI 0 from hb), if_pos (show lg_cmp 1 1 = 0 from (l_cmp _ _).mpr rfl)]; exact hk S2 e5
  · rw [if_neg h0]; exact hk S2 e5
theorem h_P {fC : SS → Option Int32} {fR : SS → Option (Int32 × SS)} {S : SS} (k : SS → Option Int32) (h : StP fC fR S) (hk : ∀ S2, Inv S2 → k S2 = some 1) :
    ((fC S).bind fun o2 => (fR S).bind fun o3 => if o2 = o3.1 then k o3.2 else some (0 : Int32)) = some 1 := by
  obtain ⟨b, S2, e1, e2, e5⟩ := h
  rw [e1, e2]
  simp only [Option.bind_some]
  rw [if_pos trivial]; exact hk S2 e5
theorem h_i4 {L i : Nat} (hL : L ≤ 2050) (hi : i ≤ 5000) : (Int32.ofNat L - 4 < nI i) ↔ L < i + 4 := by
  rcases Nat.lt_or_ge L 4 with h | h
  · have h1 : Int32.ofNat L - 4 < nI 0 := (by decide +kernel : ∀ L, L < 4 → Int32.ofNat L - 4 < nI 0) L h
    refine ⟨fun _ => by omega, fun _ => ?_⟩
    rcases Nat.eq_zero_or_pos i with q | q
    · subst q; exact h1
    · exact Int32.lt_trans h1 (nI_lt q (by omega))
  · have e : Int32.ofNat L - 4 = nI (L - 4) := q_sub (a := L) (b := 4) h
    rw [e, nI_ltI (by omega) (by omega)]
    omega
theorem s_m0 {S : SS} (hI : Inv S) (a1 a2 : Int32) : StB (f_LW_must a1 a2 0) (f_RM_must a1 a2 0) S := by
  have h := s_must hI a1 a2 False
  rw [bI_f (fun q => q)] at h
  exact h
theorem s_m1 {S : SS} (hI : Inv S) (a1 a2 : Int32) : StB (f_LW_must a1 a2 1) (f_RM_must a1 a2 1) S := by
  have h := s_must hI a1 a2 True
  rw [bI_t trivial] at h
  exact h
theorem s_b0 {S : SS} (hI : Inv S) (a1 a2 : Int32) : StB (f_LW_bar a1 a2 0) (f_RM_bar a1 a2 0) S := by
  have h := s_bar hI a1 a2 False
  rw [bI_f (fun q => q)] at h
  exact h
theorem s_b1 {S : SS} (hI : Inv S) (a1 a2 : Int32) : StB (f_LW_bar a1 a2 1) (f_RM_bar a1 a2 1) S := by
  have h := s_bar hI a1 a2 True
  rw [bI_t trivial] at h
  exact h
theorem lp_ok {L : Nat} {xs : Nat → Int32} (hL : L ≤ 2050) : ∀ N i (S : SS), Inv S → i ≤ 2060 → 0 < N → L < i + 4 * N → f_LW_loop L xs N (nI i) S = some 1 := by
  intro N
  induction N with
  | zero => intro i S hI hi h0; omega
  | succ N ih =>
    intro i S hI hi _ hN
    rw [f_LW_loop_s]
    by_cases hd : Int32.ofNat L - 4 < nI i
    · rw [if_pos hd]
    · rw [if_neg hd]
      have hge : i + 4 ≤ L := by
        rcases Nat.lt_or_ge L (i + 4) with q | q
        · exact absurd ((h_i4 hL (by omega)).mpr q) hd
        · exact q
      have o0 : ¬ oob (nI i) L := nI_in (by omega) (by omega)
      have o1 : ¬ oob (nI i + 1) L := by rw [nI_1]; exact nI_in (by omega) (by omega)
      have o2 : ¬ oob (nI i + 2) L := by rw [z2, nI_add]; exact nI_in (by omega) (by omega)
      have o3 : ¬ oob (nI i + 3) L := by rw [show (3 : Int32) = nI 3 by decide +kernel, nI_add]; exact nI_in (by omega) (by omega)
      have hk : ∀ S2, Inv S2 → f_LW_loop L xs N (nI i + 4) S2 = some 1 := fun S2 h2 => by
        rw [z4, nI_add]; exact ih (i + 4) S2 h2 (by omega) (by omega) (by omega)
      rw [if_neg o0]
      by_cases q0 : (xs (nI i).toNatClampNeg) &&& (15 : Int32) = 0
      · rw [if_pos q0]; exact h_I (fun S => f_LW_loop L xs N (nI i + 4) S) (s_key hI) hk
      rw [if_neg q0]
      by_cases q1 : (xs (nI i).toNatClampNeg) &&& (15 : Int32) = 1
      · rw [if_pos q1]; exact h_I (fun S => f_LW_loop L xs N (nI i + 4) S) (s_door hI) hk
      rw [if_neg q1]
      by_cases q2 : (xs (nI i).toNatClampNeg) &&& (15 : Int32) = 2
      · rw [if_pos q2, if_neg o1, if_neg o2, if_neg o3]
        by_cases hz : xs (nI i + 3).toNatClampNeg = 0
        · rw [if_pos hz]
          simp only [if_pos hz]
          exact h_B (fun S => f_LW_loop L xs N (nI i + 4) S) (s_m0 hI _ _) hk
        · rw [if_neg hz]
          simp only [if_neg hz]
          exact h_B (fun S => f_LW_loop L xs N (nI i + 4) S) (s_m1 hI _ _) hk
      rw [if_neg q2]
      by_cases q3 : (xs (nI i).toNatClampNeg) &&& (15 : Int32) = 3
      · rw [if_pos q3, if_neg o1]; exact h_I (fun S => f_LW_loop L xs N (nI i + 4) S) (s_step hI _) hk
      rw [if_neg q3]
      by_cases q4 : (xs (nI i).toNatClampNeg) &&& (15 : Int32) = 4
      · rw [if_pos q4, if_neg o1, if_neg o2, if_neg o3]
        by_cases hz : xs (nI i + 3).toNatClampNeg = 0
        · rw [if_pos hz]
          simp only [if_pos hz]
          exact h_B (fun S => f_LW_loop L xs N (nI i + 4) S) (s_b0 hI _ _) hk
        · rw [if_neg hz]
          simp only [if_neg hz]
          exact h_B (fun S => f_LW_loop L xs N (nI i + 4) S) (s_b1 hI _ _) hk
      rw [if_neg q4]
      by_cases q5 : (xs (nI i).toNatClampNeg) &&& (15 : Int32) = 5
      · rw [if_pos q5, if_neg o1]; exact h_I (fun S => f_LW_loop L xs N (nI i + 4) S) (s_top hI _) hk
      rw [if_neg q5]
      by_cases q6 : (xs (nI i).toNatClampNeg) &&& (15 : Int32) = 6
      · rw [if_pos q6, if_neg o1]; exact h_I (fun S => f_LW_loop L xs N (nI i + 4) S) (s_run hI _) hk
      rw [if_neg q6]
      by_cases q7 : (xs (nI i).toNatClampNeg) &&& (15 : Int32) = 7
      · rw [if_pos q7]; exact h_P (fun S => f_LW_loop L xs N (nI i + 4) S) (s_tries hI) hk
      rw [if_neg q7]
      by_cases q8 : (xs (nI i).toNatClampNeg) &&& (15 : Int32) = 8
      · rw [if_pos q8, if_neg o1, if_neg o2]; exact h_I (fun S => f_LW_loop L xs N (nI i + 4) S) (s_cut hI _ _) hk
      rw [if_neg q8]
      by_cases q9 : (xs (nI i).toNatClampNeg) &&& (15 : Int32) = 9
      · rw [if_pos q9, if_neg o1, if_neg o2, if_neg o3]; exact h_B (fun S => f_LW_loop L xs N (nI i + 4) S) (s_holds hI _ _ _) hk
      rw [if_neg q9]
      by_cases q10 : (xs (nI i).toNatClampNeg) &&& (15 : Int32) = 10
      · rw [if_pos q10, if_neg o1, if_neg o2]; exact h_B (fun S => f_LW_loop L xs N (nI i + 4) S) (s_fits hI _ _) hk
      rw [if_neg q10]
      by_cases q11 : (xs (nI i).toNatClampNeg) &&& (15 : Int32) = 11
      · rw [if_pos q11]; exact h_P (fun S => f_LW_loop L xs N (nI i + 4) S) (s_wrong hI) hk
      rw [if_neg q11]
      by_cases q12 : (xs (nI i).toNatClampNeg) &&& (15 : Int32) = 12
      · rw [if_pos q12]; exact h_I (fun S => f_LW_loop L xs N (nI i + 4) S) (s_left hI) hk
      rw [if_neg q12]
      by_cases q13 : (xs (nI i).toNatClampNeg) &&& (15 : Int32) = 13
      · rw [if_pos q13, if_neg o1]; exact h_I (fun S => f_LW_loop L xs N (nI i + 4) S) (s_add hI _) hk
      rw [if_neg q13]
      by_cases q14 : (xs (nI i).toNatClampNeg) &&& (15 : Int32) = 14
      · rw [if_pos q14, if_neg o1]; exact h_I (fun S => f_LW_loop L xs N (nI i + 4) S) (s_heirs hI _) hk
      rw [if_neg q14]
      exact hk S hI
/-! the start -/
def S00 (p d p' d' : Int32) : SS := (fun a b => if a = 1 ∧ b = 0 then p else if a = 1 ∧ b = 1 then d else if a = 1 ∧ b = 2 then 7 else if a = 1 ∧ b = 3 then 8 else if a = 33 ∧ b = 1 then p' else if a = 33 ∧ b = 2 then d' else if a = 33 ∧ b = 6 then 7 else if a = 33 ∧ b = 7 then 8 else 0, fun _ _ => 0)
def clampJ (x hi : Int32) : Int32 := if 2 < (if x < hi then x else hi) then (if x < hi then x else hi) else 2
def cellV (L : Nat) (xs : Nat → Int32) (k : Int32) : Int32 := if Int32.ofNat L ≤ k then 0 else xs k.toNatClampNeg
def S0L (L : Nat) (xs : Nat → Int32) : SS := S00 (clampJ (cellV L xs 0) 6) (clampJ (cellV L xs 1) 8) (clampI (cellV L xs 0) 6) (clampI (cellV L xs 1) 8)
theorem clamp_eq (x : Int32) {h : Nat} (h2 : 2 ≤ h) (h8 : h ≤ 8) : ∃ v, 2 ≤ v ∧ v ≤ h ∧ clampJ x (nI h) = nI v ∧ clampI x (nI h) = nI v := by
  unfold clampJ clampI
  by_cases hx : x < nI 2
  · have hlt : x < nI h := by
      rcases Nat.lt_or_ge 2 h with q | q
      · exact Int32.lt_trans hx (nI_lt q (by omega))
      · have : h = 2 := by omega
        subst this; exact hx
    refine ⟨2, by omega, h2, ?_, ?_⟩
    · rw [if_pos hlt, if_neg (show ¬ (2 : Int32) < x from fun q => Int32.lt_irrefl (Int32.lt_trans hx q))]; rfl
    · rw [if_neg (show ¬ (2 : Int32) ≤ x from fun q => Int32.lt_irrefl (Int32.lt_of_lt_of_le hx q))]; rfl
  · have hx0 : ¬ x < 0 := fun q => hx (Int32.lt_trans q (by decide +kernel))
    obtain ⟨j, hj, rfl⟩ := nI_of hx0
    have hj2 : 2 ≤ j := by
      rcases Nat.lt_or_ge j 2 with q | q
      · exact absurd (nI_lt q (by omega)) hx
      · exact q
    rcases Nat.lt_or_ge h j with q | q
    · refine ⟨h, h2, Nat.le_refl h, ?_, ?_⟩
      · simp (disch := omega) only [q_le_t, q_le_f, q_lt_t, q_lt_f, q_eq_t, q_eq_f, q_oob, q_cl, q_mul, nI_add, z0, z1, z2, z4, z6, z7, z8, z64, z512, zT, if_b0, if_b1, if_b01, ite_true, ite_false, ↓reduceIte, Option.bind_some, Sum.elim_inl, Sum.elim_inr]
        rcases Nat.lt_or_ge 2 h with g | g
        · simp (disch := omega) only [q_le_t, q_le_f, q_lt_t, q_lt_f, q_eq_t, q_eq_f, q_oob, q_cl, q_mul, nI_add, z0, z1, z2, z4, z6, z7, z8, z64, z512, zT, if_b0, if_b1, if_b01, ite_true, ite_false, ↓reduceIte, Option.bind_some, Sum.elim_inl, Sum.elim_inr]
        · simp (disch := omega) only [q_le_t, q_le_f, q_lt_t, q_lt_f, q_eq_t, q_eq_f, q_oob, q_cl, q_mul, nI_add, z0, z1, z2, z4, z6, z7, z8, z64, z512, zT, if_b0, if_b1, if_b01, ite_true, ite_false, ↓reduceIte, Option.bind_some, Sum.elim_inl, Sum.elim_inr]
      · simp (disch := omega) only [q_le_t, q_le_f, q_lt_t, q_lt_f, q_eq_t, q_eq_f, q_oob, q_cl, q_mul, nI_add, z0, z1, z2, z4, z6, z7, z8, z64, z512, zT, if_b0, if_b1, if_b01, ite_true, ite_false, ↓reduceIte, Option.bind_some, Sum.elim_inl, Sum.elim_inr]
    · refine ⟨j, hj2, q, ?_, ?_⟩
      · rcases Nat.lt_or_ge j h with g | g
        · simp (disch := omega) only [q_le_t, q_le_f, q_lt_t, q_lt_f, q_eq_t, q_eq_f, q_oob, q_cl, q_mul, nI_add, z0, z1, z2, z4, z6, z7, z8, z64, z512, zT, if_b0, if_b1, if_b01, ite_true, ite_false, ↓reduceIte, Option.bind_some, Sum.elim_inl, Sum.elim_inr]
          rcases Nat.lt_or_ge 2 j with g2 | g2
          · simp (disch := omega) only [q_le_t, q_le_f, q_lt_t, q_lt_f, q_eq_t, q_eq_f, q_oob, q_cl, q_mul, nI_add, z0, z1, z2, z4, z6, z7, z8, z64, z512, zT, if_b0, if_b1, if_b01, ite_true, ite_false, ↓reduceIte, Option.bind_some, Sum.elim_inl, Sum.elim_inr]
          · simp (disch := omega) only [q_le_t, q_le_f, q_lt_t, q_lt_f, q_eq_t, q_eq_f, q_oob, q_cl, q_mul, nI_add, z0, z1, z2, z4, z6, z7, z8, z64, z512, zT, if_b0, if_b1, if_b01, ite_true, ite_false, ↓reduceIte, Option.bind_some, Sum.elim_inl, Sum.elim_inr]
        · have : j = h := by omega
          subst this
          simp (disch := omega) only [q_le_t, q_le_f, q_lt_t, q_lt_f, q_eq_t, q_eq_f, q_oob, q_cl, q_mul, nI_add, z0, z1, z2, z4, z6, z7, z8, z64, z512, zT, if_b0, if_b1, if_b01, ite_true, ite_false, ↓reduceIte, Option.bind_some, Sum.elim_inl, Sum.elim_inr]
          rcases Nat.lt_or_ge 2 j with g2 | g2
          · simp (disch := omega) only [q_le_t, q_le_f, q_lt_t, q_lt_f, q_eq_t, q_eq_f, q_oob, q_cl, q_mul, nI_add, z0, z1, z2, z4, z6, z7, z8, z64, z512, zT, if_b0, if_b1, if_b01, ite_true, ite_false, ↓reduceIte, Option.bind_some, Sum.elim_inl, Sum.elim_inr]
          · simp (disch := omega) only [q_le_t, q_le_f, q_lt_t, q_lt_f, q_eq_t, q_eq_f, q_oob, q_cl, q_mul, nI_add, z0, z1, z2, z4, z6, z7, z8, z64, z512, zT, if_b0, if_b1, if_b01, ite_true, ite_false, ↓reduceIte, Option.bind_some, Sum.elim_inl, Sum.elim_inr]
      · simp (disch := omega) only [q_le_t, q_le_f, q_lt_t, q_lt_f, q_eq_t, q_eq_f, q_oob, q_cl, q_mul, nI_add, z0, z1, z2, z4, z6, z7, z8, z64, z512, zT, if_b0, if_b1, if_b01, ite_true, ite_false, ↓reduceIte, Option.bind_some, Sum.elim_inl, Sum.elim_inr]
theorem inv_0 (L : Nat) (xs : Nat → Int32) : Inv (S0L L xs) := by
  obtain ⟨n, n1, n2, n3, n4⟩ := clamp_eq (cellV L xs 0) (h := 6) (by omega) (by omega)
  obtain ⟨m, m1, m2, m3, m4⟩ := clamp_eq (cellV L xs 1) (h := 8) (by omega) (by omega)
  have e : S0L L xs = S00 (nI n) (nI m) (nI n) (nI m) := by
    unfold S0L
    rw [← n3, ← m3, z6, z8]
    rw [n4, m4, n3, m3]
  rw [e]
  have hf : bI False = (0 : Int32) := bI_f (fun q => q)
  refine ⟨n, m, 0, 0, 7, 8, fun _ _ => False, fun _ _ => False, ?_, ⟨rfl, rfl, rfl, rfl, rfl, rfl, ?_, fun k hk => ?_⟩, ⟨rfl, rfl, rfl, rfl, rfl, rfl, fun i j hi hj => ?_, fun i j hi hj => ?_⟩, fun k d q => q.elim, fun d hd => rfl, rfl, rfl, Or.inl rfl⟩
  · unfold BD; omega
  · rw [mk_f]; rfl
  · rw [mk_f]; rfl
  · rw [hf]; rfl
  · rw [hf]; rfl
theorem whole_pure {L : Nat} {xs : Nat → Int32} (hL : L ≤ 2050) : f_LW_loop L xs 600 2 (S0L L xs) = some 1 := lp_ok hL 600 2 _ (inv_0 L xs) (by omega) (by omega) (by omega)
