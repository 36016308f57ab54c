/-! run -/
theorem cn_0 {P : Nat → Prop} {n : Nat} (h : ∀ i, i < n → ¬ P i) : cn P n = 0 := by
  induction n with
  | zero => rfl
  | succ n ih =>
    show cn P n + bN (P n) = 0
    rw [ih (fun i hi => h i (by omega)), bN_f (h n (by omega))]
theorem good_c {n m D tp : Nat} {mu : Nat → Nat → Prop} {c c' : Nat → Nat → Nat} {j : Nat} (hj : 1 ≤ j) (h : ∀ k p, k < j → p < n → c k p = c' k p) (g : Good n m D tp mu c j) : Good n m D tp mu c' j := by
  refine ⟨fun k hk q => g.1 k hk (fun p hp => ?_), fun d hd => gd_c h (g.2 d hd)⟩
  rw [h k p (by omega) hp, h (j - 1) p (by omega) hp]
  exact q p hp
theorem q_m11 : -nI 1 + nI 1 = nI 0 := by decide +kernel
section Run
variable {n m K D st tp : Nat} {br mu : Nat → Nat → Prop}
theorem okP_c (hn : 2 ≤ n) {i : Nat} {v v' : Nat → Nat} (h : ∀ j, j ≤ i → v j = v' j) (g : okP n m D tp st br mu i v) : okP n m D tp st br mu i v' := by
  obtain ⟨g1, g2⟩ := g
  refine ⟨?_, ?_⟩
  · rw [← h (i - 1) (by omega), ← h i (Nat.le_refl i)]; exact g1
  · rcases Nat.lt_or_ge (i % n) (n - 1) with q | q
    · exact Or.inl q
    · refine Or.inr ?_
      have hg := g2.elim (fun q2 => absurd q2 (by omega)) id
      refine good_c (Nat.succ_pos _) (fun k p hk hp => h _ ?_) hg
      have h1 : n * k ≤ n * (i / n) := Nat.mul_le_mul_left n (by omega)
      have h2 := Nat.div_add_mod i n
      have h3 : i % n < n := Nat.mod_lt _ (by omega)
      omega
theorem srch_ok (hn : 2 ≤ n) (hm : 2 ≤ m) {N : Nat} : ∀ t a (v : Nat → Nat), a < N → (∀ i, i < a → okP n m D tp st br mu i v ∧ v i < m) → v a < m → (srch (okP n m D tp st br mu) m N t a v).1 = 1 → ∀ i, i < N → okP n m D tp st br mu i (srch (okP n m D tp st br mu) m N t a v).2.1 ∧ (srch (okP n m D tp st br mu) m N t a v).2.1 i < m := by
  intro t
  induction t with
  | zero => intro a v ha hv hva h; exact absurd (show (2 : Nat) = 1 from h) (by decide)
  | succ t ih =>
    intro a v ha hv hva
    unfold srch
    rcases Classical.em (okP n m D tp st br mu a v) with hk | hk
    · rw [cif_t hk]
      by_cases h2 : a + 1 = N
      · rw [if_pos h2]
        intro _ i hi
        rcases Nat.lt_or_ge i a with q | q
        · exact hv i q
        · have : i = a := by omega
          subst this
          exact ⟨hk, hva⟩
      · rw [if_neg h2]
        intro h
        refine ih (a + 1) (up v (a + 1) 0) (by omega) (fun i hi => ?_) (by rw [up_s]; omega) h
        have hc : ∀ j, j ≤ i → v j = up v (a + 1) 0 j := fun j hj => by rw [up_n (by omega)]
        rw [← hc i (Nat.le_refl i)]
        rcases Nat.lt_or_ge i a with q | q
        · exact ⟨okP_c hn hc (hv i q).1, (hv i q).2⟩
        · have : i = a := by omega
          subst this
          exact ⟨okP_c hn hc hk, hva⟩
    · rw [cif_f hk]
      cases hb : back m v a with
      | none => intro h; exact absurd (show (0 : Nat) = 1 from h) (by decide)
      | some i =>
        intro h
        obtain ⟨q1, q2⟩ := back_i hb
        refine ih i (up v i (v i + 1)) (by omega) (fun j hj => ?_) (by rw [up_s]; omega) h
        have hc : ∀ l, l ≤ j → v l = up v i (v i + 1) l := fun l hl => by rw [up_n (by omega)]
        rw [← hc j (Nat.le_refl j)]
        have := hv j (by omega)
        exact ⟨okP_c hn hc this.1, this.2⟩
theorem SR_0 (hB : BD n m K D st tp) {S : SS} (h18 : ∀ d, d < 6 → S.2 18 d = lN 0) (v : Nat → Nat) : SR n m D tp mu 0 v S := by
  obtain ⟨b1, b2, b3, b4, b5, b6, b7, b8, b9⟩ := hB
  have hno : ∀ c d p x, ¬ Held mu c 0 d p x := fun c d p x ⟨k, hk, _⟩ => absurd hk (by omega)
  refine ⟨fun k hk => absurd hk (by omega), fun j d hj hd => ?_, fun j d hj hd => ?_⟩
  · have : j = 0 := by omega
    subst this
    rw [h18 d (by omega)]
    exact congrArg lN ((mk_c (fun i hi => ⟨fun q => hno _ _ _ _ q.2, fun q => q.elim⟩)).trans (mk_f 48)).symm
  · have : j = 0 := by omega
    subst this
    refine ⟨fun p hp => ?_, fun k hk => absurd hk (by omega)⟩
    rw [cn_0 (fun i _ => hno _ _ _ _)]; omega
/-- what the class's run leaves -/
theorem c_run (hB : BD n m K D st tp) {S : SS} (hR : CQ n m K D st tp br mu S) (h18 : ∀ d, d < 6 → S.2 18 d = lN 0) (hK : 1 ≤ K) {L : Nat} (hL : L ≤ 200000) :
    ∃ S', FrK S S' ∧ S'.1 3 2 = nI (L - (srch (okP n m D tp st br mu) m (n * K) L 0 (fun _ => 0)).2.2) ∧
      ((srch (okP n m D tp st br mu) m (n * K) L 0 (fun _ => 0)).1 = 2 ∧ f_Search_look (nI L) S = some (nI 2, S') ∨
       (srch (okP n m D tp st br mu) m (n * K) L 0 (fun _ => 0)).1 = 0 ∧ f_Search_look (nI L) S = some (nI 0, S') ∨
       ((srch (okP n m D tp st br mu) m (n * K) L 0 (fun _ => 0)).1 = 1 ∧ f_Search_look (nI L) S = some (nI 1, S') ∧ (∀ k p, k < K → p < n → S'.1 (10 + k) p = nI ((srch (okP n m D tp st br mu) m (n * K) L 0 (fun _ => 0)).2.1 (n * k + p))) ∧ SR n m D tp mu K (srch (okP n m D tp st br mu) m (n * K) L 0 (fun _ => 0)).2.1 S')) := by
  have hB' := hB
  obtain ⟨b1, b2, b3, b4, b5, b6, b7, b8, b9⟩ := hB
  have hF : FrK S (wI (wI (wI (wI S 3 2 (nI 0)) 3 3 (nI 0)) 3 4 (nI 0)) (10 + 0) 0 (-nI 1)) := FrK_tr (FrK_w (Or.inl rfl)) (FrK_tr (FrK_w (Or.inl rfl)) (FrK_tr (FrK_w (Or.inl rfl)) (FrK_w (Or.inr (by omega)))))
  have hs0 : SR n m D tp mu 0 (fun _ => 0) (wI (wI (wI (wI S 3 2 (nI 0)) 3 3 (nI 0)) 3 4 (nI 0)) (10 + 0) 0 (-nI 1)) := SR_0 hB' (fun d hd => by rw [w_2, w_2, w_2, w_2]; exact h18 d hd) _
  obtain ⟨S', j1, j2, j3⟩ := c_look_L hB' hL L 0 0 (fun _ => 0) FU _ (CQ_k hF hR) (by omega) (by omega) (by rw [w_n (by omega), w_n (by omega), w_s]) (by rw [w_n (by omega), w_s]) (fun k p hp hlt => absurd hlt (by omega)) (by rw [w_s]; exact q_m11) (show 0 < m by omega) hs0 (Nat.le_refl L) (by rw [w_n (by omega), w_n (by omega), w_n (by omega), w_s, Nat.sub_self]) (by rw [FU_eq]; omega)
  rw [show n * 0 + 0 = 0 by omega] at j2 j3
  refine ⟨S', FrK_tr hF j1, j2, ?_⟩
  have e0 : f_Search_look (nI L) S = (f_Search_look_L33 (nI L) FU (wI (wI (wI (wI S 3 2 (nI 0)) 3 3 (nI 0)) 3 4 (nI 0)) (10 + 0) 0 (-nI 1))).bind fun v3 => Sum.elim (fun r4 => some r4) (fun v3 => some (nI 2, v3)) v3 := by
    rw [f_Search_look_s]
    simp (disch := omega) only [q_le_t, q_le_f, q_lt_t, q_lt_f, q_eq_t, q_eq_f, q_oob, q_cl, q_mul, nI_add, z0, z1, z2, z4, z6, z7, z8, z64, z512, zT, if_b0, if_b1, if_b01, ite_true, ite_false, ↓reduceIte, Option.bind_some, Sum.elim_inl, Sum.elim_inr]
  rcases j3 with ⟨q1, q2⟩ | ⟨q1, q2⟩ | ⟨q1, q2, q3, q4⟩
  · exact Or.inl ⟨q1, by rw [e0, q2]; rfl⟩
  · exact Or.inr (Or.inl ⟨q1, by rw [e0, q2]; rfl⟩)
  · exact Or.inr (Or.inr ⟨q1, by rw [e0, q2]; rfl, q3, q4⟩)
/-- and the reference's -/
theorem r_run (hB : BD n m K D st tp) {S : SS} (hR : RQ n m K D st tp br mu S) (hK : 1 ≤ K) {L : Nat} (hL : L ≤ 200000) :
    ∃ S', S'.2 = S.2 ∧ (∀ p k, ¬ (p = 36 ∨ (p = 33 ∧ (k = 0 ∨ k = 9 ∨ k = 10))) → S'.1 p k = S.1 p k) ∧ S'.1 33 0 = nI 0 ∧ S'.1 33 10 = nI (L - (srch (okP n m D tp st br mu) m (n * K) L 0 (fun _ => 0)).2.2) ∧
      ((srch (okP n m D tp st br mu) m (n * K) L 0 (fun _ => 0)).1 = 2 ∧ f_RM_run (nI L) S = some (nI 2, S') ∧ S'.1 33 9 = nI 0 ∨
       (srch (okP n m D tp st br mu) m (n * K) L 0 (fun _ => 0)).1 = 0 ∧ f_RM_run (nI L) S = some (nI 0, S') ∧ S'.1 33 9 = nI 0 ∨
       ((srch (okP n m D tp st br mu) m (n * K) L 0 (fun _ => 0)).1 = 1 ∧ f_RM_run (nI L) S = some (nI 1, S') ∧ S'.1 33 9 = nI 1 ∧ ∀ i, i < n * K → S'.1 36 i = nI ((srch (okP n m D tp st br mu) m (n * K) L 0 (fun _ => 0)).2.1 i))) := by
  have hB' := hB
  obtain ⟨b1, b2, b3, b4, b5, b6, b7, b8, b9⟩ := hB
  have r3 := hR.2.2.1
  have h48 : n * K ≤ 48 := by
    have : n * K ≤ 6 * 8 := Nat.mul_le_mul b2 b5
    omega
  have hnK : 0 < n * K := Nat.mul_pos (by omega) (by omega)
  have hg : ∀ p k, ¬ (p = 36 ∨ (p = 33 ∧ (k = 0 ∨ k = 9 ∨ k = 10))) → (wI (wI (wI (wI S 33 0 (nI 0)) 33 9 (nI 0)) 33 10 (nI 0)) 36 0 (-nI 1)).1 p k = S.1 p k := fun p k q => by
    rw [w_n (by omega), w_n (by omega), w_n (by omega), w_n (by omega)]
  obtain ⟨S', j1, j2, j3⟩ := r_run_L hB' h48 hL L 0 (fun _ => 0) FU _ (RQ_f (fun p k q => hg p k (by omega)) hR) hnK (fun i hi => absurd hi (by omega)) (by rw [w_s]; exact q_m11) (show 0 < m by omega) (Nat.le_refl L) (by rw [w_n (by omega), w_s, Nat.sub_self]) (by rw [FU_eq]; omega)
  have e0 : f_RM_run (nI L) S = (f_RM_run_L58 (nI L) FU (nI 0) (wI (wI (wI (wI S 33 0 (nI 0)) 33 9 (nI 0)) 33 10 (nI 0)) 36 0 (-nI 1))).bind fun v3 => Sum.elim (fun r4 => some r4) (fun v3 => if v3.1 < nI 0 then some (nI 0, wI v3.2 33 9 (nI 0)) else some (nI 1, wI v3.2 33 9 (nI 1))) v3 := by
    rw [f_RM_run_s, f_RM_isIn_s]
    simp (disch := omega) only [q_le_t, q_le_f, q_lt_t, q_lt_f, q_eq_t, q_eq_f, q_oob, q_cl, q_mul, nI_add, z0, z1, z2, z4, z6, z7, z8, z64, z512, zT, if_b0, if_b1, if_b01, ite_true, ite_false, ↓reduceIte, Option.bind_some, Sum.elim_inl, Sum.elim_inr, r3]
  have hg2 : ∀ p k, ¬ (p = 36 ∨ (p = 33 ∧ (k = 0 ∨ k = 9 ∨ k = 10))) → S'.1 p k = S.1 p k := fun p k q => by
    rw [j1.2 p k (by unfold ER; omega), hg p k q]
  have h0 : S'.1 33 0 = nI 0 := by rw [j1.2 33 0 (by unfold ER; omega), w_n (by omega), w_n (by omega), w_n (by omega), w_s]
  have h9 : S'.1 33 9 = nI 0 := by rw [j1.2 33 9 (by unfold ER; omega), w_n (by omega), w_n (by omega), w_s]
  rcases j3 with ⟨q1, q2⟩ | ⟨q1, q2⟩ | ⟨q1, q2, q3⟩
  · exact ⟨S', j1.1, hg2, h0, j2, Or.inl ⟨q1, by rw [e0, q2]; rfl, h9⟩⟩
  · refine ⟨wI S' 33 9 (nI 0), j1.1, fun p k q => ?_, ?_, ?_, Or.inr (Or.inl ⟨q1, ?_, w_s⟩)⟩
    · rw [w_n (by omega), hg2 p k q]
    · rw [w_n (by omega)]; exact h0
    · rw [w_n (by omega)]; exact j2
    · rw [e0, q2]
      simp only [q_le_t, q_le_f, q_lt_t, q_lt_f, q_eq_t, q_eq_f, q_oob, q_cl, q_mul, nI_add, z0, z1, z2, z4, z6, z7, z8, z64, z512, zT, if_b0, if_b1, if_b01, ite_true, ite_false, ↓reduceIte, Option.bind_some, Sum.elim_inl, Sum.elim_inr]
      rw [if_pos (by decide +kernel)]
  · refine ⟨wI S' 33 9 (nI 1), j1.1, fun p k q => ?_, ?_, ?_, Or.inr (Or.inr ⟨q1, ?_, w_s, fun i hi => ?_⟩)⟩
    · rw [w_n (by omega), hg2 p k q]
    · rw [w_n (by omega)]; exact h0
    · rw [w_n (by omega)]; exact j2
    · rw [e0, q2]
      simp (disch := omega) only [q_le_t, q_le_f, q_lt_t, q_lt_f, q_eq_t, q_eq_f, q_oob, q_cl, q_mul, nI_add, z0, z1, z2, z4, z6, z7, z8, z64, z512, zT, if_b0, if_b1, if_b01, ite_true, ite_false, ↓reduceIte, Option.bind_some, Sum.elim_inl, Sum.elim_inr]
    · rw [w_n (by omega)]; exact q3 i hi
end Run
theorem s_run {S : SS} (hI : Inv S) (a : Int32) : StI (f_LW_run a) (f_RM_run a) S := by
  have hI' := hI
  obtain ⟨n, m, K, D, st, tp, br, mu, hB, hC, hR, hmu, h18, htr, hfd, hpl⟩ := hI
  have hB' := hB
  have hC' := hC
  have hR' := hR
  obtain ⟨b1, b2, b3, b4, b5, b6, b7, b8, b9⟩ := hB
  obtain ⟨c1, c2, c3, c4, c5, c6, c7, c8⟩ := hC
  obtain ⟨r1, r2, r3, r4, r6, r7, r8, r9⟩ := hR
  by_cases h0 : a < nI 0
  · refine st_no (k := 1) (b := nI 0) hI' ?_ ?_ (by omega) (by omega)
    · rw [f_LW_run_s, f_MK_run_s, if_pos (show a < 0 from h0)]; rfl
    · rw [f_RM_run_s, f_RM_isIn_s, if_pos (show a < 0 from h0)]; rfl
  · obtain ⟨L, hL31, rfl⟩ := nI_of h0
    rcases Nat.lt_or_ge 200000 L with hL | hL
    · refine st_no (k := 1) (b := nI 0) hI' ?_ ?_ (by omega) (by omega)
      · rw [f_LW_run_s, f_MK_run_s]
        simp (disch := omega) only [q_le_t, q_le_f, q_lt_t, q_lt_f, q_eq_t, q_eq_f, q_oob, q_cl, q_mul, nI_add, z0, z1, z2, z4, z6, z7, z8, z64, z512, zT, if_b0, if_b1, if_b01, ite_true, ite_false, ↓reduceIte, Option.bind_some, Sum.elim_inl, Sum.elim_inr]
      · rw [f_RM_run_s, f_RM_isIn_s]
        simp (disch := omega) only [q_le_t, q_le_f, q_lt_t, q_lt_f, q_eq_t, q_eq_f, q_oob, q_cl, q_mul, nI_add, z0, z1, z2, z4, z6, z7, z8, z64, z512, zT, if_b0, if_b1, if_b01, ite_true, ite_false, ↓reduceIte, Option.bind_some, Sum.elim_inl, Sum.elim_inr]
    · by_cases hK : K = 0
      · subst hK
        refine st_no (k := 2) (b := nI 0) hI' ?_ ?_ (by omega) (by omega)
        · rw [f_LW_run_s, f_MK_run_s]
          simp (disch := omega) only [q_le_t, q_le_f, q_lt_t, q_lt_f, q_eq_t, q_eq_f, q_oob, q_cl, q_mul, nI_add, z0, z1, z2, z4, z6, z7, z8, z64, z512, zT, if_b0, if_b1, if_b01, ite_true, ite_false, ↓reduceIte, Option.bind_some, Sum.elim_inl, Sum.elim_inr, c5]
          rfl
        · rw [f_RM_run_s, f_RM_isIn_s]
          simp (disch := omega) only [q_le_t, q_le_f, q_lt_t, q_lt_f, q_eq_t, q_eq_f, q_oob, q_cl, q_mul, nI_add, z0, z1, z2, z4, z6, z7, z8, z64, z512, zT, if_b0, if_b1, if_b01, ite_true, ite_false, ↓reduceIte, Option.bind_some, Sum.elim_inl, Sum.elim_inr, r3]
      · obtain ⟨T, t1, t2, t3⟩ := c_run hB' hC' h18 (by omega) hL
        have eM : ∀ (q : Nat) (x : Nat), q ≤ 2 → f_Search_look (nI L) S = some (nI q, T) → x = (if q = 1 then 1 else 0) → f_LW_run (nI L) S = some (nI 0, wL (wI T 0 4 (nI x)) 38 0 (nI q).toInt64) := by
          intro q x hq e hx
          rw [f_LW_run_s, f_MK_run_s]
          simp (disch := omega) only [q_le_t, q_le_f, q_lt_t, q_lt_f, q_eq_t, q_eq_f, q_oob, q_cl, q_mul, nI_add, z0, z1, z2, z4, z6, z7, z8, z64, z512, zT, if_b0, if_b1, if_b01, ite_true, ite_false, ↓reduceIte, Option.bind_some, Sum.elim_inl, Sum.elim_inr, c5, e]
          by_cases h1 : q = 1
          · subst h1; subst hx
            simp (disch := omega) only [q_le_t, q_le_f, q_lt_t, q_lt_f, q_eq_t, q_eq_f, q_oob, q_cl, q_mul, nI_add, z0, z1, z2, z4, z6, z7, z8, z64, z512, zT, if_b0, if_b1, if_b01, ite_true, ite_false, ↓reduceIte, Option.bind_some, Sum.elim_inl, Sum.elim_inr]
          · simp (disch := omega) only [q_le_t, q_le_f, q_lt_t, q_lt_f, q_eq_t, q_eq_f, q_oob, q_cl, q_mul, nI_add, z0, z1, z2, z4, z6, z7, z8, z64, z512, zT, if_b0, if_b1, if_b01, ite_true, ite_false, ↓reduceIte, Option.bind_some, Sum.elim_inl, Sum.elim_inr]
            rw [if_neg h1] at hx
            subst hx
            rfl
        have fin : ∀ (q x : Nat), f_LW_run (nI L) S = some (nI 0, wL (wI T 0 4 (nI x)) 38 0 (nI q).toInt64) → ∀ U : SS, f_RM_run (nI L) (wL (wI T 0 4 (nI x)) 38 0 (nI q).toInt64) = some (nI q, U) → U.2 = (wL (wI T 0 4 (nI x)) 38 0 (nI q).toInt64).2 → (∀ p k, ¬ (p = 36 ∨ (p = 33 ∧ (k = 0 ∨ k = 9 ∨ k = 10))) → U.1 p k = (wL (wI T 0 4 (nI x)) 38 0 (nI q).toInt64).1 p k) → U.1 33 0 = nI 0 → U.1 33 10 = T.1 3 2 → U.1 33 9 = nI x →
            (x = 0 ∨ x = 1 ∧ ∃ c, FP n m K D st tp br mu c U) → StI (f_LW_run (nI L)) (f_RM_run (nI L)) S := by
          intro q x e1 U e2 u2 u1 u0 u10 u9 hf
          have g : ∀ p k, ¬ (p = 3 ∨ (10 ≤ p ∧ p < 18) ∨ p = 36 ∨ (p = 33 ∧ (k = 0 ∨ k = 9 ∨ k = 10)) ∨ (p = 0 ∧ k = 4)) → U.1 p k = S.1 p k := fun p k h => by
            rw [u1 p k (by omega), show (wL (wI T 0 4 (nI x)) 38 0 (nI q).toInt64).1 p k = (wI T 0 4 (nI x)).1 p k from rfl, w_n (by omega), t1.1 p k (by omega)]
          have gL : ∀ p k, ¬ (p = 7 ∨ (19 ≤ p ∧ p < 27) ∨ p = 38) → U.2 p k = S.2 p k := fun p k h => by
            rw [u2, u_n (by omega), w_2, t1.2 p k (by omega)]
          refine ⟨nI 0, _, nI q, U, e1, e2, u0, fun _ => by rw [u2, u_s], n, m, K, D, st, tp, br, mu, hB', CQ_f (fun p k h => g p k (by omega)) (gL 1 4 (by omega)) hC', RQ_f (fun p k h => g p k (by omega)) hR', hmu, fun d hd => by rw [gL 18 d (by omega)]; exact h18 d hd, ?_, ?_, ?_⟩
          · rw [u10, u1 3 2 (by omega)]
            show (wI T 0 4 (nI x)).1 3 2 = _
            rw [w_n (by omega)]
          · rw [u9, u1 0 4 (by omega), u_1]
            exact w_s
          · rcases hf with h | ⟨h, hc⟩
            · exact Or.inl (by rw [u9, h])
            · exact Or.inr ⟨by rw [u9, h], hc⟩
        have hRx : ∀ (q x : Nat), RQ n m K D st tp br mu (wL (wI T 0 4 (nI x)) 38 0 (nI q).toInt64) := fun q x => RQ_f (fun p k h => by
          show (wI T 0 4 (nI x)).1 p k = _
          rw [w_n (by omega), t1.1 p k (by omega)]) hR'
        rcases t3 with ⟨q1, q2⟩ | ⟨q1, q2⟩ | ⟨q1, q2, q3, q4⟩
        · obtain ⟨U, u2, u1, u0, u10, u3⟩ := r_run hB' (hRx 2 0) (by omega) hL
          rcases u3 with ⟨w1, w2, w3⟩ | ⟨w1, w2, w3⟩ | ⟨w1, w2, w3, w4⟩
          · exact fin 2 0 (eM 2 0 (by omega) q2 rfl) U w2 u2 u1 u0 (by rw [u10, t2]) w3 (Or.inl rfl)
          · omega
          · omega
        · obtain ⟨U, u2, u1, u0, u10, u3⟩ := r_run hB' (hRx 0 0) (by omega) hL
          rcases u3 with ⟨w1, w2, w3⟩ | ⟨w1, w2, w3⟩ | ⟨w1, w2, w3, w4⟩
          · omega
          · exact fin 0 0 (eM 0 0 (by omega) q2 rfl) U w2 u2 u1 u0 (by rw [u10, t2]) w3 (Or.inl rfl)
          · omega
        · obtain ⟨U, u2, u1, u0, u10, u3⟩ := r_run hB' (hRx 1 1) (by omega) hL
          rcases u3 with ⟨w1, w2, w3⟩ | ⟨w1, w2, w3⟩ | ⟨w1, w2, w3, w4⟩
          · omega
          · omega
          · have hnK : 0 < n * K := Nat.mul_pos (by omega) (by omega)
            have hok := srch_ok (br := br) (mu := mu) (D := D) (tp := tp) (st := st) b1 b3 L 0 (fun _ => 0) hnK (fun i hi => absurd hi (by omega)) (by omega) w1
            refine fin 1 1 (eM 1 1 (by omega) q2 rfl) U w2 u2 u1 u0 (by rw [u10, t2]) w3 (Or.inr ⟨rfl, fun k p => (srch (okP n m D tp st br mu) m (n * K) L 0 (fun _ => 0)).2.1 (n * k + p), fun k p hk hp => ⟨(hok _ (nkp hk hp)).2, ?_, w4 _ (nkp hk hp)⟩, fun k hk => ?_, fun d hd => ?_, fun k p hk hp => ?_, fun i k hi hk => ?_⟩)
            · rw [u1 (10 + k) p (by omega)]
              show (wI T 0 4 (nI 1)).1 (10 + k) p = _
              rw [w_n (by omega), q3 k p hk hp]
            · rw [u2, u_n (by omega), w_2, q4.1 k hk]
            · rw [u2, u_n (by omega), w_2, q4.2.1 K d (Nat.le_refl K) hd]
            · have h1 := (hok _ (nkp hk hp)).1.1
              have h2 : (n * k + (p + 1)) % n = p + 1 := by rw [Nat.mul_add_mod, Nat.mod_eq_of_lt hp]
              rw [h2] at h1
              rcases h1 with h1 | h1
              · omega
              · exact h1
            · have h1 := (hok _ (nkp hk (show n - 1 < n by omega))).1.2
              have h2 : (n * k + (n - 1)) % n = n - 1 := by rw [Nat.mul_add_mod, Nat.mod_eq_of_lt (by omega)]
              have h3 : (n * k + (n - 1)) / n = k := by rw [Nat.mul_add_div (by omega), Nat.div_eq_of_lt (by omega), Nat.add_zero]
              rw [h2, h3] at h1
              rcases h1 with h1 | h1
              · omega
              · exact h1.1 i (by omega)
