/-! the search, as it is meant -/
def up (v : Nat → Nat) (i x : Nat) : Nat → Nat := fun j => if j = i then x else v j
theorem up_s (v : Nat → Nat) (i x : Nat) : up v i x i = x := if_pos rfl
theorem up_n {v : Nat → Nat} {i x j : Nat} (h : j ≠ i) : up v i x j = v j := if_neg h
def back (m : Nat) (v : Nat → Nat) : Nat → Option Nat
  | 0 => if v 0 + 1 < m then some 0 else none
  | i + 1 => if v (i + 1) + 1 < m then some (i + 1) else back m v i
noncomputable def srch (ok : Nat → (Nat → Nat) → Prop) (m N : Nat) : Nat → Nat → (Nat → Nat) → Nat × (Nat → Nat) × Nat
  | 0, _, v => (2, v, 0)
  | t + 1, a, v => cif (ok a v) (if a + 1 = N then (1, v, t) else srch ok m N t (a + 1) (up v (a + 1) 0))
      (match back m v a with
      | none => (0, v, t)
      | some i => srch ok m N t i (up v i (v i + 1)))
theorem back_i {m : Nat} {v : Nat → Nat} {a i : Nat} (h : back m v a = some i) : i ≤ a ∧ v i + 1 < m := by
  induction a with
  | zero =>
    unfold back at h
    split at h
    · cases h; exact ⟨Nat.le_refl 0, by assumption⟩
    · cases h
  | succ a ih =>
    unfold back at h
    split at h
    · cases h; exact ⟨Nat.le_refl _, by assumption⟩
    · have := ih h; exact ⟨by omega, this.2⟩
def okP (n m D tp st : Nat) (br mu : Nat → Nat → Prop) (a : Nat) (v : Nat → Nat) : Prop :=
  (a % n = 0 ∨ May st br (v (a - 1)) (v a)) ∧ (a % n < n - 1 ∨ Good n m D tp mu (fun k p => v (n * k + p)) (a / n + 1))
/-! what stays -/
def Fr (E : Nat → Nat → Prop) (S S' : SS) : Prop := S'.2 = S.2 ∧ ∀ p k, ¬ E p k → S'.1 p k = S.1 p k
theorem Fr_rfl {E : Nat → Nat → Prop} {S : SS} : Fr E S S := ⟨rfl, fun _ _ _ => rfl⟩
theorem Fr_tr {E : Nat → Nat → Prop} {S T U : SS} (h : Fr E S T) (g : Fr E T U) : Fr E S U := ⟨g.1.trans h.1, fun p k e => (g.2 p k e).trans (h.2 p k e)⟩
theorem w_s {S : SS} {p k : Nat} {x : Int32} : (wI S p k x).1 p k = x := by simp [wI]
theorem w_n {S : SS} {p k a b : Nat} {x : Int32} (h : ¬ (a = p ∧ b = k)) : (wI S p k x).1 a b = S.1 a b := if_neg h
theorem w_2 {S : SS} {p k : Nat} {x : Int32} : (wI S p k x).2 = S.2 := rfl
theorem u_s {S : SS} {p k : Nat} {x : Int64} : (wL S p k x).2 p k = x := by simp [wL]
theorem u_n {S : SS} {p k a b : Nat} {x : Int64} (h : ¬ (a = p ∧ b = k)) : (wL S p k x).2 a b = S.2 a b := if_neg h
theorem u_1 {S : SS} {p k : Nat} {x : Int64} : (wL S p k x).1 = S.1 := rfl
theorem Fr_w {E : Nat → Nat → Prop} {S : SS} {p k : Nat} {x : Int32} (h : E p k) : Fr E S (wI S p k x) := ⟨rfl, fun a b e => w_n (fun ⟨h1, h2⟩ => e (by rw [h1, h2]; exact h))⟩
def ER (p k : Nat) : Prop := p = 36 ∨ (p = 33 ∧ k = 10)
theorem RQ_f {n m K D st tp : Nat} {br mu : Nat → Nat → Prop} {S S' : SS} (h : ∀ p k, (p = 34 ∨ p = 35 ∨ (p = 33 ∧ 1 ≤ k ∧ k ≤ 8)) → S'.1 p k = S.1 p k) (hR : RQ n m K D st tp br mu S) : RQ n m K D st tp br mu S' := by
  obtain ⟨r1, r2, r3, r4, r6, r7, r8, r9⟩ := hR
  refine ⟨?_, ?_, ?_, ?_, ?_, ?_, fun i j hi hj => ?_, fun i j hi hj => ?_⟩
  · rw [h _ _ (by omega), r1]
  · rw [h _ _ (by omega), r2]
  · rw [h _ _ (by omega), r3]
  · rw [h _ _ (by omega), r4]
  · rw [h _ _ (by omega), r6]
  · rw [h _ _ (by omega), r7]
  · rw [h _ _ (by omega), r8 i j hi hj]
  · rw [h _ _ (by omega), r9 i j hi hj]
theorem RQ_e {n m K D st tp : Nat} {br mu : Nat → Nat → Prop} {S S' : SS} (h : Fr ER S S') (hR : RQ n m K D st tp br mu S) : RQ n m K D st tp br mu S' :=
  RQ_f (fun p k q => h.2 p k (by unfold ER; omega)) hR
theorem q_dec (a : Nat) : nI (a + 1) + -nI 1 = nI a := by rw [← nI_1, Int32.add_assoc, show (1 : Int32) + -nI 1 = 0 by decide +kernel, Int32.add_zero]
theorem q_rem (a n : Nat) : nI a - nI (a / n * n) = nI (a % n) := by
  rw [q_sub (Nat.div_mul_le_self a n), Nat.mod_eq_sub_div_mul]
section RefRun
variable {n m K D st tp : Nat} {br mu : Nat → Nat → Prop}
/-- down to the latest place that has a depth left -/
theorem r_back (hB : BD n m K D st tp) {v : Nat → Nat} {L : Int32} : ∀ a N (S : SS), RQ n m K D st tp br mu S → a < n * K → n * K ≤ 48 → (∀ i, i ≤ a → S.1 36 i = nI (v i) ∧ v i < m) → a + 1 < N →
    match back m v a with
    | none => ∃ S', f_RM_run_L58 L N (nI a) S = some (.inr (-1, S')) ∧ Fr ER S S' ∧ S'.1 33 10 = S.1 33 10
    | some i => ∃ S' N', f_RM_run_L58 L N (nI a) S = f_RM_run_L58 L N' (nI i) S' ∧ N ≤ N' + (a - i) ∧ Fr ER S S' ∧ S'.1 33 10 = S.1 33 10 ∧ ∀ j, j ≤ i → S'.1 36 j = nI (v j) := by
  have hB' := hB
  obtain ⟨b1, b2, b3, b4, b5, b6, b7, b8, b9⟩ := hB
  intro a
  induction a with
  | zero =>
    intro N S hR ha hN48 hv hN
    obtain ⟨N, rfl⟩ : ∃ M, N = M + 1 := ⟨N - 1, by omega⟩
    obtain ⟨e, hm⟩ := hv 0 (Nat.le_refl 0)
    unfold back
    by_cases h : v 0 + 1 < m
    · simp only [h, ite_true]
      exact ⟨S, N + 1, rfl, by omega, Fr_rfl, rfl, fun j hj => (hv j hj).1⟩
    · simp only [h, ite_false]
      have hR' := hR
      obtain ⟨r1, r2, r3, r4, r6, r7, r8, r9⟩ := hR
      obtain ⟨N, rfl⟩ : ∃ M, N = M + 1 := ⟨N - 1, by omega⟩
      rw [f_RM_run_L58_s]
      simp (disch := omega) only [q_le_t, q_le_f, q_lt_t, q_lt_f, q_eq_t, q_eq_f, q_oob, q_cl, q_mul, nI_add, z0, z1, z2, z4, z6, z7, z8, z64, z512, zT, if_b0, if_b1, if_b01, ite_true, ite_false, ↓reduceIte, Option.bind_some, Sum.elim_inl, Sum.elim_inr, r1, r2, r3, e, w_s]
      rw [show nI 0 + -nI 1 = (-nI 1 : Int32) by decide +kernel, f_RM_run_L58_s]
      rw [if_pos (by decide +kernel)]
      exact ⟨_, rfl, Fr_w (Or.inl rfl), w_n (by omega)⟩
  | succ a ih =>
    intro N S hR ha hN48 hv hN
    obtain ⟨N, rfl⟩ : ∃ M, N = M + 1 := ⟨N - 1, by omega⟩
    obtain ⟨e, hm⟩ := hv (a + 1) (Nat.le_refl _)
    unfold back
    by_cases h : v (a + 1) + 1 < m
    · simp only [h, ite_true]
      exact ⟨S, N + 1, rfl, by omega, Fr_rfl, rfl, fun j hj => (hv j hj).1⟩
    · simp only [h, ite_false]
      have hR' := hR
      obtain ⟨r1, r2, r3, r4, r6, r7, r8, r9⟩ := hR
      have e1 : f_RM_run_L58 L (N + 1) (nI (a + 1)) S = f_RM_run_L58 L N (nI a) (wI S 36 (a + 1) (nI (v (a + 1) + 1))) := by
        rw [f_RM_run_L58_s]
        simp (disch := omega) only [q_le_t, q_le_f, q_lt_t, q_lt_f, q_eq_t, q_eq_f, q_oob, q_cl, q_mul, nI_add, z0, z1, z2, z4, z6, z7, z8, z64, z512, zT, if_b0, if_b1, if_b01, ite_true, ite_false, ↓reduceIte, Option.bind_some, Sum.elim_inl, Sum.elim_inr, r1, r2, r3, e, w_s]
        rw [q_dec]
      have hF : Fr ER S (wI S 36 (a + 1) (nI (v (a + 1) + 1))) := Fr_w (Or.inl rfl)
      have ih := ih N (wI S 36 (a + 1) (nI (v (a + 1) + 1))) (RQ_e hF hR') (by omega) hN48 (fun i hi => by rw [w_n (by omega)]; exact hv i (by omega)) (by omega)
      rw [e1]
      cases hb : back m v a with
      | none =>
        rw [hb] at ih
        obtain ⟨S', g1, g2, g3⟩ := ih
        exact ⟨S', g1, Fr_tr hF g2, g3.trans (w_n (by omega))⟩
      | some i =>
        rw [hb] at ih
        obtain ⟨S', N', g1, g2, g3, g4, g5⟩ := ih
        have := (back_i hb).1
        exact ⟨S', N', g1, by omega, Fr_tr hF g3, g4.trans (w_n (by omega)), g5⟩
theorem r_step (hB : BD n m K D st tp) {v : Nat → Nat} {S : SS} (hR : RQ n m K D st tp br mu S) {a L t N : Nat} (ha : a < n * K) (h48 : n * K ≤ 48) (hv : ∀ i, i < a → S.1 36 i = nI (v i) ∧ v i < m) (hc : S.1 36 a + nI 1 = nI (v a)) (hm : v a < m) (hL : L ≤ 200000) (ht : t + 1 ≤ L) (h10 : S.1 33 10 = nI (L - (t + 1))) :
    f_RM_run_L58 (nI L) (N + 1) (nI a) S = cif (okP n m D tp st br mu a v) (if n * K ≤ a + 1 then f_RM_run_L58 (nI L) N (nI (a + 1)) (wI (wI S 36 a (nI (v a))) 33 10 (nI (L - (t + 1) + 1))) else f_RM_run_L58 (nI L) N (nI (a + 1)) (wI (wI (wI S 36 a (nI (v a))) 33 10 (nI (L - (t + 1) + 1))) 36 (a + 1) (-nI 1))) (f_RM_run_L58 (nI L) N (nI a) (wI (wI S 36 a (nI (v a))) 33 10 (nI (L - (t + 1) + 1)))) := by
  have hB' := hB
  have hR' := hR
  obtain ⟨b1, b2, b3, b4, b5, b6, b7, b8, b9⟩ := hB
  obtain ⟨r1, r2, r3, r4, r6, r7, r8, r9⟩ := hR
  have hF : Fr ER S (wI (wI S 36 a (nI (v a))) 33 10 (nI (L - (t + 1) + 1))) := Fr_tr (Fr_w (Or.inl rfl)) (Fr_w (Or.inr ⟨rfl, rfl⟩))
  have hR2 := RQ_e hF hR'
  have hmd : a % n < n := Nat.mod_lt _ (by omega)
  have hdiv : n * (a / n) + a % n = a := Nat.div_add_mod a n
  have hk : a / n < K := Nat.div_lt_of_lt_mul ha
  have hv2 : ∀ i, i ≤ a → (wI (wI S 36 a (nI (v a))) 33 10 (nI (L - (t + 1) + 1))).1 36 i = nI (v i) ∧ v i < m := by
    intro i hi
    rw [w_n (by omega)]
    rcases Nat.lt_or_ge i a with h | h
    · rw [w_n (by omega)]; exact hv i h
    · have : i = a := by omega
      subst this
      rw [w_s]; exact ⟨rfl, hm⟩
  have eg : a % n = n - 1 → f_RM_areGood (nI (a / n + 1)) (wI (wI S 36 a (nI (v a))) 33 10 (nI (L - (t + 1) + 1))) = some (bI (Good n m D tp mu (fun k p => v (n * k + p)) (a / n + 1))) := by
    intro h
    refine r_good hB' hR2 (Nat.succ_pos _) (by omega) (fun k p hk2 hp => ?_)
    have h1 : n * k ≤ n * (a / n) := Nat.mul_le_mul_left n (by omega)
    have := hv2 (n * k + p) (by omega)
    exact ⟨this.1, by omega⟩
  rw [f_RM_run_L58_s]
  by_cases h0 : a % n = 0
  · by_cases h1 : a % n < n - 1
    · simp (disch := omega) only [q_le_t, q_le_f, q_lt_t, q_lt_f, q_eq_t, q_eq_f, q_oob, q_cl, q_mul, nI_add, z0, z1, z2, z4, z6, z7, z8, z64, z512, zT, if_b0, if_b1, if_b01, ite_true, ite_false, ↓reduceIte, Option.bind_some, Sum.elim_inl, Sum.elim_inr, r1, r2, r3, h10, hc, w_s, w_n, q_rem, pk_div, q_sub]
      rw [cif_t (show okP n m D tp st br mu a v from ⟨Or.inl h0, Or.inl h1⟩)]
      by_cases h2 : n * K ≤ a + 1
      · simp (disch := omega) only [q_le_t, q_le_f, q_lt_t, q_lt_f, q_eq_t, q_eq_f, q_oob, q_cl, q_mul, nI_add, z0, z1, z2, z4, z6, z7, z8, z64, z512, zT, if_b0, if_b1, if_b01, ite_true, ite_false, ↓reduceIte, Option.bind_some, Sum.elim_inl, Sum.elim_inr, h2]
      · simp (disch := omega) only [q_le_t, q_le_f, q_lt_t, q_lt_f, q_eq_t, q_eq_f, q_oob, q_cl, q_mul, nI_add, z0, z1, z2, z4, z6, z7, z8, z64, z512, zT, if_b0, if_b1, if_b01, ite_true, ite_false, ↓reduceIte, Option.bind_some, Sum.elim_inl, Sum.elim_inr, h2]
    · exact absurd h1 (by omega)
  · have em := r_may hB' hR2 (show v (a - 1) < 8 by have := (hv (a - 1) (by omega)).2; omega) (show v a < 8 by omega)
    have ev := (hv (a - 1) (by omega)).1
    by_cases h1 : a % n < n - 1
    · simp (disch := omega) only [q_le_t, q_le_f, q_lt_t, q_lt_f, q_eq_t, q_eq_f, q_oob, q_cl, q_mul, nI_add, z0, z1, z2, z4, z6, z7, z8, z64, z512, zT, if_b0, if_b1, if_b01, ite_true, ite_false, ↓reduceIte, Option.bind_some, Sum.elim_inl, Sum.elim_inr, r1, r2, r3, h10, hc, w_s, w_n, q_rem, pk_div, q_sub, em, ev]
      rcases Classical.em (May st br (v (a - 1)) (v a)) with hy | hy
      · rw [cif_t hy, cif_t (show okP n m D tp st br mu a v from ⟨Or.inr hy, Or.inl h1⟩)]
        by_cases h2 : n * K ≤ a + 1
        · simp (disch := omega) only [q_le_t, q_le_f, q_lt_t, q_lt_f, q_eq_t, q_eq_f, q_oob, q_cl, q_mul, nI_add, z0, z1, z2, z4, z6, z7, z8, z64, z512, zT, if_b0, if_b1, if_b01, ite_true, ite_false, ↓reduceIte, Option.bind_some, Sum.elim_inl, Sum.elim_inr, h2]
        · simp (disch := omega) only [q_le_t, q_le_f, q_lt_t, q_lt_f, q_eq_t, q_eq_f, q_oob, q_cl, q_mul, nI_add, z0, z1, z2, z4, z6, z7, z8, z64, z512, zT, if_b0, if_b1, if_b01, ite_true, ite_false, ↓reduceIte, Option.bind_some, Sum.elim_inl, Sum.elim_inr, h2]
      · rw [cif_f hy, cif_f (fun q : okP n m D tp st br mu a v => q.1.elim h0 hy)]
    · have eg := eg (by omega)
      simp (disch := omega) only [q_le_t, q_le_f, q_lt_t, q_lt_f, q_eq_t, q_eq_f, q_oob, q_cl, q_mul, nI_add, z0, z1, z2, z4, z6, z7, z8, z64, z512, zT, if_b0, if_b1, if_b01, ite_true, ite_false, ↓reduceIte, Option.bind_some, Sum.elim_inl, Sum.elim_inr, r1, r2, r3, h10, hc, w_s, w_n, q_rem, pk_div, q_sub, em, ev, eg]
      rcases Classical.em (May st br (v (a - 1)) (v a)) with hy | hy
      · rw [cif_t hy]
        rcases Classical.em (Good n m D tp mu (fun k p => v (n * k + p)) (a / n + 1)) with hg | hg
        · rw [cif_t hg, cif_t (show okP n m D tp st br mu a v from ⟨Or.inr hy, Or.inr hg⟩)]
          by_cases h2 : n * K ≤ a + 1
          · simp (disch := omega) only [q_le_t, q_le_f, q_lt_t, q_lt_f, q_eq_t, q_eq_f, q_oob, q_cl, q_mul, nI_add, z0, z1, z2, z4, z6, z7, z8, z64, z512, zT, if_b0, if_b1, if_b01, ite_true, ite_false, ↓reduceIte, Option.bind_some, Sum.elim_inl, Sum.elim_inr, h2]
          · simp (disch := omega) only [q_le_t, q_le_f, q_lt_t, q_lt_f, q_eq_t, q_eq_f, q_oob, q_cl, q_mul, nI_add, z0, z1, z2, z4, z6, z7, z8, z64, z512, zT, if_b0, if_b1, if_b01, ite_true, ite_false, ↓reduceIte, Option.bind_some, Sum.elim_inl, Sum.elim_inr, h2]
        · rw [cif_f hg, cif_f (fun q : okP n m D tp st br mu a v => q.2.elim h1 hg)]
      · rw [cif_f hy, cif_f (fun q : okP n m D tp st br mu a v => q.1.elim h0 hy)]
theorem r_run_L (hB : BD n m K D st tp) (h48 : n * K ≤ 48) {L : Nat} (hL : L ≤ 200000) : ∀ t a (v : Nat → Nat) N (S : SS), RQ n m K D st tp br mu S → a < n * K → (∀ i, i < a → S.1 36 i = nI (v i) ∧ v i < m) → S.1 36 a + nI 1 = nI (v a) → v a < m → t ≤ L → S.1 33 10 = nI (L - t) → 2 * t + a + 2 ≤ N →
    ∃ S', Fr ER S S' ∧ S'.1 33 10 = nI (L - (srch (okP n m D tp st br mu) m (n * K) t a v).2.2) ∧
      (((srch (okP n m D tp st br mu) m (n * K) t a v).1 = 2 ∧ f_RM_run_L58 (nI L) N (nI a) S = some (.inl (nI 2, S'))) ∨
       ((srch (okP n m D tp st br mu) m (n * K) t a v).1 = 0 ∧ f_RM_run_L58 (nI L) N (nI a) S = some (.inr (-1, S'))) ∨
       ((srch (okP n m D tp st br mu) m (n * K) t a v).1 = 1 ∧ f_RM_run_L58 (nI L) N (nI a) S = some (.inr (nI (n * K), S')) ∧ ∀ i, i < n * K → S'.1 36 i = nI ((srch (okP n m D tp st br mu) m (n * K) t a v).2.1 i))) := by
  have hB' := hB
  obtain ⟨b1, b2, b3, b4, b5, b6, b7, b8, b9⟩ := hB
  intro t
  induction t with
  | zero =>
    intro a v N S hR ha hv hc hm ht h10 hN
    obtain ⟨N, rfl⟩ : ∃ M, N = M + 1 := ⟨N - 1, by omega⟩
    obtain ⟨r1, r2, r3, r4, r6, r7, r8, r9⟩ := hR
    refine ⟨wI S 36 a (nI (v a)), Fr_w (Or.inl rfl), by rw [w_n (by omega)]; exact h10, Or.inl ⟨rfl, ?_⟩⟩
    rw [f_RM_run_L58_s]
    simp (disch := omega) only [q_le_t, q_le_f, q_lt_t, q_lt_f, q_eq_t, q_eq_f, q_oob, q_cl, q_mul, nI_add, z0, z1, z2, z4, z6, z7, z8, z64, z512, zT, if_b0, if_b1, if_b01, ite_true, ite_false, ↓reduceIte, Option.bind_some, Sum.elim_inl, Sum.elim_inr, r1, r2, r3, h10, hc, w_s, w_n]
  | succ t ih =>
    intro a v N S hR ha hv hc hm ht h10 hN
    obtain ⟨N, rfl⟩ : ∃ M, N = M + 1 := ⟨N - 1, by omega⟩
    have hF : Fr ER S (wI (wI S 36 a (nI (v a))) 33 10 (nI (L - (t + 1) + 1))) := Fr_tr (Fr_w (Or.inl rfl)) (Fr_w (Or.inr ⟨rfl, rfl⟩))
    have hR2 := RQ_e hF hR
    have hv2 : ∀ i, i ≤ a → (wI (wI S 36 a (nI (v a))) 33 10 (nI (L - (t + 1) + 1))).1 36 i = nI (v i) ∧ v i < m := by
      intro i hi
      rw [w_n (by omega)]
      rcases Nat.lt_or_ge i a with h | h
      · rw [w_n (by omega)]; exact hv i h
      · have : i = a := by omega
        subst this
        rw [w_s]; exact ⟨rfl, hm⟩
    have h102 : (wI (wI S 36 a (nI (v a))) 33 10 (nI (L - (t + 1) + 1))).1 33 10 = nI (L - t) := by
      rw [w_s]; congr 1; omega
    rw [r_step hB' hR ha h48 hv hc hm hL ht h10]
    unfold srch
    rcases Classical.em (okP n m D tp st br mu a v) with hk | hk
    · rw [cif_t hk, cif_t hk]
      by_cases h2 : a + 1 = n * K
      · rw [if_pos h2, if_pos (by omega)]
        obtain ⟨N, rfl⟩ : ∃ M, N = M + 1 := ⟨N - 1, by omega⟩
        obtain ⟨r1, r2, r3, r4, r6, r7, r8, r9⟩ := hR2
        refine ⟨_, hF, h102, Or.inr (Or.inr ⟨rfl, ?_, fun i hi => (hv2 i (by omega)).1⟩)⟩
        rw [f_RM_run_L58_s]
        rw [r1, r3]
        simp (disch := omega) only [q_le_t, q_le_f, q_lt_t, q_lt_f, q_eq_t, q_eq_f, q_oob, q_cl, q_mul, nI_add, z0, z1, z2, z4, z6, z7, z8, z64, z512, zT, if_b0, if_b1, if_b01, ite_true, ite_false, ↓reduceIte, Option.bind_some, Sum.elim_inl, Sum.elim_inr, ← h2]
      · rw [if_neg h2, if_neg (by omega)]
        have hF2 : Fr ER S (wI (wI (wI S 36 a (nI (v a))) 33 10 (nI (L - (t + 1) + 1))) 36 (a + 1) (-nI 1)) := Fr_tr hF (Fr_w (Or.inl rfl))
        obtain ⟨S', g1, g2, g3⟩ := ih (a + 1) (up v (a + 1) 0) N _ (RQ_e hF2 hR) (by omega) (fun i hi => by
          rw [w_n (by omega), up_n (by omega)]; exact hv2 i (by omega)) (by rw [w_s, up_s]; decide +kernel) (by rw [up_s]; omega) (by omega) (by rw [w_n (by omega)]; exact h102) (by omega)
        exact ⟨S', Fr_tr hF2 g1, g2, g3⟩
    · rw [cif_f hk, cif_f hk]
      have hb := r_back (L := nI L) hB' a N _ hR2 ha h48 hv2 (by omega)
      cases e : back m v a with
      | none =>
        rw [e] at hb
        obtain ⟨S', g1, g2, g3⟩ := hb
        exact ⟨S', Fr_tr hF g2, g3.trans h102, Or.inr (Or.inl ⟨rfl, g1⟩)⟩
      | some i =>
        rw [e] at hb
        obtain ⟨S', N', g1, g2, g3, g4, g5⟩ := hb
        obtain ⟨q1, q2⟩ := back_i e
        rw [g1]
        obtain ⟨S'', j1, j2, j3⟩ := ih i (up v i (v i + 1)) N' S' (RQ_e g3 hR2) (by omega) (fun j hj => by
          rw [up_n (by omega)]; exact ⟨g5 j (by omega), (hv2 j (by omega)).2⟩) (by rw [up_s, g5 i (Nat.le_refl i), nI_add]) (by rw [up_s]; omega) (by omega) (g4.trans h102) (by omega)
        exact ⟨S'', Fr_tr (Fr_tr hF g3) j1, j2, j3⟩
end RefRun
