/-! the least row, cut -/
theorem q_negF {a : Nat} (h : a < 2147483648) : (nI a = -nI 1) = False := eq_false (q_neg h)
theorem sub_iv {m q B R : Nat} (hm : 0 < m) (h1 : B * m ^ (q + 1) ≤ R) (h2 : R < B * m ^ (q + 1) + m ^ (q + 1)) : ∃ x R', x < m ∧ R' < m ^ q ∧ R = (B * m + x) * m ^ q + R' := by
  have hp : 0 < m ^ q := Nat.pow_pos hm
  have e1 : B * m ^ (q + 1) = (B * m) * m ^ q := by rw [Nat.pow_succ, Nat.mul_comm (m ^ q) m, ← Nat.mul_assoc]
  have e2 : B * m ^ (q + 1) + m ^ (q + 1) = (B * m + m) * m ^ q := by rw [Nat.add_mul, e1, Nat.pow_succ, Nat.mul_comm (m ^ q) m]
  have g1 : B * m ≤ R / m ^ q := (Nat.le_div_iff_mul_le hp).mpr (by rw [← e1]; exact h1)
  have g2 : R / m ^ q < B * m + m := (Nat.div_lt_iff_lt_mul hp).mpr (by rw [← e2]; exact h2)
  refine ⟨R / m ^ q - B * m, R % m ^ q, by omega, Nat.mod_lt _ hp, ?_⟩
  rw [show B * m + (R / m ^ q - B * m) = R / m ^ q by omega, Nat.mul_comm]
  exact (Nat.div_add_mod R (m ^ q)).symm
section Cut
variable {n m K D st tp : Nat} {br mu : Nat → Nat → Prop} {c : Nat → Nat → Nat} {w : Nat}
theorem c_cl_L (hB : BD n m K D st tp) (hK : K < 8) (hw : w < 64) : ∀ t N p (r : Nat → Nat) (S : SS), p + t = n → t < N → CQ n m K D st tp br mu S → FP n m K D st tp br mu c S → PW n m K D st w br mu c 0 S → (∀ i, i < p → S.1 (10 + K) i = nI (r i) ∧ r i < m) → (∀ i, i + 1 < p → May st br (r i) (r (i + 1))) →
    (∀ R, R < nm m r p * m ^ (n - p) → ¬ ZR n m K D st br mu c w R) → (p = 0 ∨ ∃ R, nm m r p * m ^ (n - p) ≤ R ∧ R < nm m r p * m ^ (n - p) + m ^ (n - p) ∧ ZR n m K D st br mu c w R) →
    (∃ S', Fr (fun a _ => a = 10 + K) S S' ∧ (∀ R, R < m ^ n → ¬ ZR n m K D st br mu c w R) ∧ f_Rows_cutLeast_L35 (nI w) (10 + K) N (nI (mk (fun d => ∀ i, i < p → Held mu c K d i (r i)) D)) (lN (mk (rb p r) 48)) (nI p) S = some (.inl (nI 0, S'))) ∨
    (∃ S' r', Fr (fun a _ => a = 10 + K) S S' ∧ (∀ i, i < n → S'.1 (10 + K) i = nI (r' i) ∧ r' i < m) ∧ ZR n m K D st br mu c w (nm m r' n) ∧ (∀ R, R < nm m r' n → ¬ ZR n m K D st br mu c w R) ∧ f_Rows_cutLeast_L35 (nI w) (10 + K) N (nI (mk (fun d => ∀ i, i < p → Held mu c K d i (r i)) D)) (lN (mk (rb p r) 48)) (nI p) S = some (.inr S')) := by
  have hB' := hB
  obtain ⟨b1, b2, b3, b4, b5, b6, b7, b8, b9⟩ := hB
  intro t
  induction t with
  | zero =>
    intro N p r S hp hN hR hF hW hr hl hno hex
    obtain ⟨N, rfl⟩ : ∃ M, N = M + 1 := ⟨N - 1, by omega⟩
    have : p = n := by omega
    subst this
    have r1 := hR.1
    rw [Nat.sub_self, Nat.pow_zero, Nat.mul_one] at hno hex
    refine Or.inr ⟨S, r, Fr_rfl, hr, ?_, hno, ?_⟩
    · rcases hex with h | ⟨R, h1, h2, h3⟩
      · omega
      · have : R = nm m r p := by omega
        subst this
        exact h3
    · rw [f_Rows_cutLeast_L35_s]
      simp (disch := omega) only [q_le_t, q_le_f, q_lt_t, q_lt_f, q_eq_t, q_eq_f, q_oob, q_cl, q_mul, nI_add, z0, z1, z2, z4, z6, z7, z8, z64, z512, zT, if_b0, if_b1, if_b01, ite_true, ite_false, ↓reduceIte, Option.bind_some, Sum.elim_inl, Sum.elim_inr, r1]
  | succ t ih =>
    intro N p r S hp hN hR hF hW hr hl hno hex
    obtain ⟨N, rfl⟩ : ∃ M, N = M + 1 := ⟨N - 1, by omega⟩
    have r1 := hR.1
    have hpn : p < n := by omega
    have hm : 0 < m := by omega
    have hrm : ∀ i, i < p → r i < m := fun i hi => (hr i hi).2
    have hpw : n - p = (n - 1 - p) + 1 := by omega
    have hiff := fun x (hx : x < m) => Cx_iff (w := w) hB' hF hpn hrm hl hx
    have hstep : ∀ x, x < m → Cx n m K D st br mu c w r p x → (∀ x', x' < x → ¬ Cx n m K D st br mu c w r p x') →
        (∃ S', Fr (fun a _ => a = 10 + K) S S' ∧ (∀ R, R < m ^ n → ¬ ZR n m K D st br mu c w R) ∧ f_Rows_cutLeast_L35 (nI w) (10 + K) N (nI (mk (fun d => (∀ i, i < p → Held mu c K d i (r i)) ∧ Held mu c K d p x) D)) (lN (mk (fun i => rb p r i ∨ i = p * 8 + x) 48)) (nI (p + 1)) (wI S (10 + K) p (nI x)) = some (.inl (nI 0, S'))) ∨
        (∃ S' r', Fr (fun a _ => a = 10 + K) S S' ∧ (∀ i, i < n → S'.1 (10 + K) i = nI (r' i) ∧ r' i < m) ∧ ZR n m K D st br mu c w (nm m r' n) ∧ (∀ R, R < nm m r' n → ¬ ZR n m K D st br mu c w R) ∧ f_Rows_cutLeast_L35 (nI w) (10 + K) N (nI (mk (fun d => (∀ i, i < p → Held mu c K d i (r i)) ∧ Held mu c K d p x) D)) (lN (mk (fun i => rb p r i ∨ i = p * 8 + x) 48)) (nI (p + 1)) (wI S (10 + K) p (nI x)) = some (.inr S')) := by
      intro x hx hC hmin
      have e1 : mk (fun d => (∀ i, i < p → Held mu c K d i (r i)) ∧ Held mu c K d p x) D = mk (fun d => ∀ i, i < p + 1 → Held mu c K d i (up r p x i)) D := by
        apply mk_c
        intro d _
        rw [all_s, up_s]
        constructor
        · rintro ⟨q1, q2⟩; exact ⟨fun i hi => by rw [up_n (by omega)]; exact q1 i hi, q2⟩
        · rintro ⟨q1, q2⟩
          refine ⟨fun i hi => ?_, q2⟩
          have := q1 i hi
          rw [up_n (by omega)] at this
          exact this
      have e2 : mk (fun i => rb p r i ∨ i = p * 8 + x) 48 = mk (rb (p + 1) (up r p x)) 48 := mk_c (fun i _ => rb_push (by omega) i)
      have hnm : nm m (up r p x) (p + 1) = nm m r p * m + x := by
        show nm m (up r p x) p * m + up r p x p = _
        rw [up_s, nm_c (s := r) (fun i hi => up_n (by omega))]
      have hF1 : Fr (fun a _ => a = 10 + K) S (wI S (10 + K) p (nI x)) := Fr_w rfl
      rw [e1, e2]
      have ih := ih N (p + 1) (up r p x) (wI S (10 + K) p (nI x)) (by omega) (by omega) (CQ_f (fun a b q => w_n (by omega)) rfl hR) (FP_g (fun k i hk => w_n (by omega)) (fun k => w_n (by omega)) rfl hF) (fun p' h1 h2 y f hy hf => by rw [w_n (by omega)]; exact hW p' h1 h2 y f hy hf) (fun i hi => by
          rcases Nat.lt_or_ge i p with h | h
          · rw [w_n (by omega), up_n (by omega)]; exact hr i h
          · have : i = p := by omega
            subst this
            rw [w_s, up_s]; exact ⟨rfl, hx⟩) (fun i hi => by
          rcases Nat.lt_or_ge (i + 1) p with h | h
          · rw [up_n (by omega), up_n (by omega)]; exact hl i h
          · have : i + 1 = p := by omega
            rw [up_n (by omega), this, up_s]
            rcases hC.1 with h1 | h1
            · omega
            · rw [show p - 1 = i by omega] at h1; exact h1) (by
          intro R hRlt hz
          rw [hnm, show n - (p + 1) = n - 1 - p by omega] at hRlt
          rcases Nat.lt_or_ge R (nm m r p * m ^ (n - p)) with h | h
          · exact hno R h hz
          · rw [hpw] at h
            have hub : R < nm m r p * m ^ (n - 1 - p + 1) + m ^ (n - 1 - p + 1) := by
              have h5 : (nm m r p * m + x) * m ^ (n - 1 - p) ≤ (nm m r p * m + m) * m ^ (n - 1 - p) := Nat.mul_le_mul_right _ (by omega)
              have h6 : (nm m r p * m + m) * m ^ (n - 1 - p) = nm m r p * m ^ (n - 1 - p + 1) + m ^ (n - 1 - p + 1) := by
                rw [Nat.add_mul, Nat.pow_succ, Nat.mul_comm (m ^ (n - 1 - p)) m, Nat.mul_assoc]
              omega
            obtain ⟨x', R', g1, g2, g3⟩ := sub_iv hm h hub
            subst g3
            have hxx : x' < x := by
              rcases Nat.lt_or_ge x' x with q | q
              · exact q
              · exfalso
                have h7 : (nm m r p * m + x) * m ^ (n - 1 - p) ≤ (nm m r p * m + x') * m ^ (n - 1 - p) := Nat.mul_le_mul_right _ (by omega)
                omega
            exact hmin x' hxx ((hiff x' g1).mpr ⟨R', g2, hz⟩)) (by
          obtain ⟨R', g1, g2⟩ := (hiff x hx).mp hC
          refine Or.inr ⟨(nm m r p * m + x) * m ^ (n - 1 - p) + R', ?_, ?_, g2⟩
          · rw [hnm, show n - (p + 1) = n - 1 - p by omega]; omega
          · rw [hnm, show n - (p + 1) = n - 1 - p by omega]; omega)
      rcases ih with ⟨S', k1, k2⟩ | ⟨S', r', k1, k2⟩
      · exact Or.inl ⟨S', Fr_tr hF1 k1, k2⟩
      · exact Or.inr ⟨S', r', Fr_tr hF1 k1, k2⟩
    have hnone : (∀ x, x < m → ¬ Cx n m K D st br mu c w r p x) → ∀ R, R < m ^ n → ¬ ZR n m K D st br mu c w R := by
      intro h R hRn hz
      have hin : ∀ R, nm m r p * m ^ (n - p) ≤ R → R < nm m r p * m ^ (n - p) + m ^ (n - p) → ¬ ZR n m K D st br mu c w R := by
        intro R h1 h2 hz
        rw [hpw] at h1 h2
        obtain ⟨x', R', g1, g2, g3⟩ := sub_iv hm h1 h2
        subst g3
        exact h x' g1 ((hiff x' g1).mpr ⟨R', g2, hz⟩)
      rcases hex with h0 | ⟨R2, h1, h2, h3⟩
      · subst h0
        refine hin R ?_ ?_ hz
        · show 0 * _ ≤ R
          rw [Nat.zero_mul]; omega
        · show R < 0 * _ + _
          rw [Nat.zero_mul, Nat.sub_zero]; omega
      · exact hin R2 h1 h2 h3
    have hD : ∀ x, x < m → f_Board_doorsHolding (nI p) (nI x) (wI S (10 + K) p (nI x)) = some (nI (mk (fun d => Held mu c K d p x) D)) := fun x hx => c_dH hB' (CQ_f (fun a b q => w_n (by omega)) rfl hR) (FP_g (fun k i hk => w_n (by omega)) (fun k => w_n (by omega)) rfl hF) hpn (by omega)
    have hbit : ∀ x, x < m → ∀ T, f_Board_bit (nI p) (nI x) T = some (lN (mk (fun i => i = p * 8 + x) 48)) := fun x hx T => by
      rw [f_Board_bit_s, z8, l_bit (N := 48) (by omega) (by omega)]
    rw [f_Rows_cutLeast_L35_s]
    by_cases hp0 : p = 0
    · have hc := c_ld_L (w := w) hB' hR hF hw hW hpn hrm (x2 := -1) (Or.inl ⟨hp0, rfl⟩) m FU 0 (by omega) (by rw [FU_eq]; omega) (fun x hx => absurd hx (by omega))
      rcases hc with ⟨x, h1, h2, h3, h4⟩ | ⟨h1, h2⟩
      · have el : f_Rows_leastDepth (nI p) (-1) (nI (mk (fun d => ∀ i, i < p → Held mu c K d i (r i)) D)) (lN (mk (rb p r) 48)) (nI w) S = some (nI x) := by
          rw [f_Rows_leastDepth_s, z0, h4]; rfl
        rw [el]
        simp (disch := omega) only [q_le_t, q_le_f, q_lt_t, q_lt_f, q_eq_t, q_eq_f, q_oob, q_cl, q_mul, nI_add, z0, z1, z2, z4, z6, z7, z8, z64, z512, zT, if_b0, if_b1, if_b01, ite_true, ite_false, ↓reduceIte, Option.bind_some, Sum.elim_inl, Sum.elim_inr, r1, q_negF, hD x h1, hbit x h1, i_and, l_or]
        exact hstep x h1 h2 h3
      · have el : f_Rows_leastDepth (nI p) (-1) (nI (mk (fun d => ∀ i, i < p → Held mu c K d i (r i)) D)) (lN (mk (rb p r) 48)) (nI w) S = some (-1) := by
          rw [f_Rows_leastDepth_s, z0, h2]; rfl
        rw [el]
        simp (disch := omega) only [q_le_t, q_le_f, q_lt_t, q_lt_f, q_eq_t, q_eq_f, q_oob, q_cl, q_mul, nI_add, z0, z1, z2, z4, z6, z7, z8, z64, z512, zT, if_b0, if_b1, if_b01, ite_true, ite_false, ↓reduceIte, Option.bind_some, Sum.elim_inl, Sum.elim_inr, r1, eq_self]
        exact Or.inl ⟨S, Fr_rfl, hnone h1, rfl⟩
    · have ec := (hr (p - 1) (by omega)).1
      have hc := c_ld_L (w := w) hB' hR hF hw hW hpn hrm (x2 := nI (r (p - 1))) (Or.inr ⟨by omega, rfl⟩) m FU 0 (by omega) (by rw [FU_eq]; omega) (fun x hx => absurd hx (by omega))
      rcases hc with ⟨x, h1, h2, h3, h4⟩ | ⟨h1, h2⟩
      · have el : f_Rows_leastDepth (nI p) (nI (r (p - 1))) (nI (mk (fun d => ∀ i, i < p → Held mu c K d i (r i)) D)) (lN (mk (rb p r) 48)) (nI w) S = some (nI x) := by
          rw [f_Rows_leastDepth_s, z0, h4]; rfl
        simp (disch := omega) only [q_le_t, q_le_f, q_lt_t, q_lt_f, q_eq_t, q_eq_f, q_oob, q_cl, q_mul, nI_add, z0, z1, z2, z4, z6, z7, z8, z64, z512, zT, if_b0, if_b1, if_b01, ite_true, ite_false, ↓reduceIte, Option.bind_some, Sum.elim_inl, Sum.elim_inr, r1, q_sub, ec, el, q_negF, hD x h1, hbit x h1, i_and, l_or]
        exact hstep x h1 h2 h3
      · have el : f_Rows_leastDepth (nI p) (nI (r (p - 1))) (nI (mk (fun d => ∀ i, i < p → Held mu c K d i (r i)) D)) (lN (mk (rb p r) 48)) (nI w) S = some (-nI 1) := by
          rw [f_Rows_leastDepth_s, z0, h2]; rfl
        simp (disch := omega) only [q_le_t, q_le_f, q_lt_t, q_lt_f, q_eq_t, q_eq_f, q_oob, q_cl, q_mul, nI_add, z0, z1, z2, z4, z6, z7, z8, z64, z512, zT, if_b0, if_b1, if_b01, ite_true, ite_false, ↓reduceIte, Option.bind_some, Sum.elim_inl, Sum.elim_inr, r1, q_sub, ec, el, eq_self]
        exact Or.inl ⟨S, Fr_rfl, hnone h1, rfl⟩
end Cut
