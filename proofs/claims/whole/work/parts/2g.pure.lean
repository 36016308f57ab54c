/-! ways of the class -/
def EW (p k : Nat) : Prop := 27 ≤ p ∧ p < 33
theorem CQ_w {n m K D st tp : Nat} {br mu : Nat → Nat → Prop} {S S' : SS} (h : Fr EW S S') (hR : CQ n m K D st tp br mu S) : CQ n m K D st tp br mu S' :=
  CQ_f (fun p k q => h.2 p k (by unfold EW; omega)) (by rw [h.1]) hR
theorem FP_w {n m K D st tp : Nat} {br mu : Nat → Nat → Prop} {c : Nat → Nat → Nat} {S S' : SS} (hK : K ≤ 8) (h : Fr EW S S') (hF : FP n m K D st tp br mu c S) : FP n m K D st tp br mu c S' :=
  FP_f (fun p k q => h.2 p k (by unfold EW; omega)) (fun p k q => by rw [h.1]) hK hF
theorem Fr_mono {E E' : Nat → Nat → Prop} {S S' : SS} (hE : ∀ p k, E p k → E' p k) (h : Fr E S S') : Fr E' S S' := ⟨h.1, fun p k q => h.2 p k (fun e => q (hE p k e))⟩
section Ways
variable {n m K D st tp : Nat} {br mu : Nat → Nat → Prop} {c : Nat → Nat → Nat}
theorem w_i26 {p x w : Nat} (hp : p < 6) (hx : x < 8) (hw : w < 64) : ∀ t N f (S : SS), f + t = 64 → t < N → (∀ g, g < f → S.1 (27 + p) (x * 64 + g) = nI (bN (g = w))) →
    ∃ S', Fr (fun a b => a = 27 + p ∧ x * 64 ≤ b ∧ b < x * 64 + 64) S S' ∧ (∀ g, g < 64 → S'.1 (27 + p) (x * 64 + g) = nI (bN (g = w))) ∧ f_Rows_countWays_L26 (nI w) (nI p) (nI x) N (nI f) S = some S' := by
  intro t
  induction t with
  | zero =>
    intro N f S hf hN hd
    obtain ⟨N, rfl⟩ : ∃ M, N = M + 1 := ⟨N - 1, by omega⟩
    have : f = 64 := by omega
    subst this
    refine ⟨S, Fr_rfl, hd, ?_⟩
    rw [f_Rows_countWays_L26_s]
    simp (disch := omega) only [q_le_t, q_le_f, q_lt_t, q_lt_f, q_eq_t, q_eq_f, q_oob, q_cl, q_mul, nI_add, z0, z1, z2, z4, z6, z7, z8, z64, z512, zT, if_b0, if_b1, if_b01, ite_true, ite_false, ↓reduceIte, Option.bind_some, Sum.elim_inl, Sum.elim_inr]
  | succ t ih =>
    intro N f S hf hN hd
    obtain ⟨N, rfl⟩ : ∃ M, N = M + 1 := ⟨N - 1, by omega⟩
    have key : ∀ b, b = nI (bN (f = w)) → ∃ S', Fr (fun a b => a = 27 + p ∧ x * 64 ≤ b ∧ b < x * 64 + 64) S S' ∧ (∀ g, g < 64 → S'.1 (27 + p) (x * 64 + g) = nI (bN (g = w))) ∧ f_Rows_countWays_L26 (nI w) (nI p) (nI x) N (nI (f + 1)) (wI S (27 + p) (x * 64 + f) b) = some S' := by
      intro b hb
      obtain ⟨S', j1, j2, j3⟩ := ih N (f + 1) (wI S (27 + p) (x * 64 + f) b) (by omega) (by omega) (fun g hg => by
        rcases Nat.lt_or_ge g f with h | h
        · rw [w_n (by omega)]; exact hd g h
        · have : g = f := by omega
          subst this
          rw [w_s, hb])
      exact ⟨S', Fr_tr (Fr_w ⟨rfl, by omega, by omega⟩) j1, j2, j3⟩
    rw [f_Rows_countWays_L26_s]
    by_cases h : f = w
    · simp (disch := omega) only [q_le_t, q_le_f, q_lt_t, q_lt_f, q_eq_t, q_eq_f, q_oob, q_cl, q_mul, nI_add, z0, z1, z2, z4, z6, z7, z8, z64, z512, zT, if_b0, if_b1, if_b01, ite_true, ite_false, ↓reduceIte, Option.bind_some, Sum.elim_inl, Sum.elim_inr, f_Rows_state_s]
      exact key _ (by rw [bN_t h])
    · simp (disch := omega) only [q_le_t, q_le_f, q_lt_t, q_lt_f, q_eq_t, q_eq_f, q_oob, q_cl, q_mul, nI_add, z0, z1, z2, z4, z6, z7, z8, z64, z512, zT, if_b0, if_b1, if_b01, ite_true, ite_false, ↓reduceIte, Option.bind_some, Sum.elim_inl, Sum.elim_inr, f_Rows_state_s]
      exact key _ (by rw [bN_f h])
theorem w_i12 {p w : Nat} (hB : BD n m K D st tp) (hp : p < 6) (hw : w < 64) : ∀ t N k (S : SS), k + t = m → t < N → CQ n m K D st tp br mu S → (∀ x g, x < k → g < 64 → S.1 (27 + p) (x * 64 + g) = nI (bN (g = w))) →
    ∃ S', Fr (fun a _ => a = 27 + p) S S' ∧ (∀ x g, x < m → g < 64 → S'.1 (27 + p) (x * 64 + g) = nI (bN (g = w))) ∧ f_Rows_countWays_L12 (nI w) (nI p) N (nI k) S = some S' := by
  obtain ⟨b1, b2, b3, b4, b5, b6, b7, b8, b9⟩ := hB
  intro t
  induction t with
  | zero =>
    intro N k S hk hN hR hd
    obtain ⟨N, rfl⟩ : ∃ M, N = M + 1 := ⟨N - 1, by omega⟩
    have : k = m := by omega
    subst this
    have r2 := hR.2.1
    refine ⟨S, Fr_rfl, hd, ?_⟩
    rw [f_Rows_countWays_L12_s]
    simp (disch := omega) only [q_le_t, q_le_f, q_lt_t, q_lt_f, q_eq_t, q_eq_f, q_oob, q_cl, q_mul, nI_add, z0, z1, z2, z4, z6, z7, z8, z64, z512, zT, if_b0, if_b1, if_b01, ite_true, ite_false, ↓reduceIte, Option.bind_some, Sum.elim_inl, Sum.elim_inr, r2]
  | succ t ih =>
    intro N k S hk hN hR hd
    obtain ⟨N, rfl⟩ : ∃ M, N = M + 1 := ⟨N - 1, by omega⟩
    have r2 := hR.2.1
    obtain ⟨S1, i1, i2, i3⟩ := w_i26 hp (show k < 8 by omega) hw 64 FU 0 S (by omega) (by rw [FU_eq]; omega) (fun g hg => absurd hg (by omega))
    have hF1 : Fr (fun a _ => a = 27 + p) S S1 := Fr_mono (fun a b q => q.1) i1
    obtain ⟨S', j1, j2, j3⟩ := ih N (k + 1) S1 (by omega) (by omega) (CQ_w (Fr_mono (fun a b q => by unfold EW; omega) hF1) hR) (fun x g hx hg => by
      rcases Nat.lt_or_ge x k with h | h
      · rw [i1.2 _ _ (by omega)]; exact hd x g h hg
      · have : x = k := by omega
        subst this
        exact i2 g hg)
    refine ⟨S', Fr_tr hF1 j1, j2, ?_⟩
    rw [f_Rows_countWays_L12_s]
    simp (disch := omega) only [q_le_t, q_le_f, q_lt_t, q_lt_f, q_eq_t, q_eq_f, q_oob, q_cl, q_mul, nI_add, z0, z1, z2, z4, z6, z7, z8, z64, z512, zT, if_b0, if_b1, if_b01, ite_true, ite_false, ↓reduceIte, Option.bind_some, Sum.elim_inl, Sum.elim_inr, r2, i3]
    exact j3
theorem w_zero {p : Nat} (hp : p < 6) : ∀ t N k (S : SS), k + t = 512 → t < N → (∀ i, i < k → S.1 (27 + p) i = nI 0) →
    ∃ S', Fr (fun a _ => a = 27 + p) S S' ∧ (∀ i, i < 512 → S'.1 (27 + p) i = nI 0) ∧ f_Rows_countWaysBehind_L2 (nI p) N (nI k) S = some S' := by
  intro t
  induction t with
  | zero =>
    intro N k S hk hN hd
    obtain ⟨N, rfl⟩ : ∃ M, N = M + 1 := ⟨N - 1, by omega⟩
    have : k = 512 := by omega
    subst this
    refine ⟨S, Fr_rfl, hd, ?_⟩
    rw [f_Rows_countWaysBehind_L2_s]
    simp (disch := omega) only [q_le_t, q_le_f, q_lt_t, q_lt_f, q_eq_t, q_eq_f, q_oob, q_cl, q_mul, nI_add, z0, z1, z2, z4, z6, z7, z8, z64, z512, zT, if_b0, if_b1, if_b01, ite_true, ite_false, ↓reduceIte, Option.bind_some, Sum.elim_inl, Sum.elim_inr]
  | succ t ih =>
    intro N k S hk hN hd
    obtain ⟨N, rfl⟩ : ∃ M, N = M + 1 := ⟨N - 1, by omega⟩
    obtain ⟨S', j1, j2, j3⟩ := ih N (k + 1) (wI S (27 + p) k (nI 0)) (by omega) (by omega) (fun i hi => by
      rcases Nat.lt_or_ge i k with h | h
      · rw [w_n (by omega)]; exact hd i h
      · have : i = k := by omega
        subst this
        rw [w_s])
    refine ⟨S', Fr_tr (Fr_w rfl) j1, j2, ?_⟩
    rw [f_Rows_countWaysBehind_L2_s]
    simp (disch := omega) only [q_le_t, q_le_f, q_lt_t, q_lt_f, q_eq_t, q_eq_f, q_oob, q_cl, q_mul, nI_add, z0, z1, z2, z4, z6, z7, z8, z64, z512, zT, if_b0, if_b1, if_b01, ite_true, ite_false, ↓reduceIte, Option.bind_some, Sum.elim_inl, Sum.elim_inr]
    exact j3
theorem w_add {p x y h : Nat} (hp : p + 1 < 6) (hx : x < 8) (hy : y < 8) (hh : h < 64) {S0 : SS} : ∀ t N f (S : SS), f + t = 64 → t < N → Fr (fun a b => a = 27 + p ∧ x * 64 ≤ b ∧ b < x * 64 + 64) S0 S → (∀ g, g < f → S.1 (27 + p) (x * 64 + g) = S0.1 (27 + p) (x * 64 + g) + S0.1 (27 + (p + 1)) (y * 64 + (g &&& h))) → (∀ g, f ≤ g → g < 64 → S.1 (27 + p) (x * 64 + g) = S0.1 (27 + p) (x * 64 + g)) →
    ∃ S', Fr (fun a b => a = 27 + p ∧ x * 64 ≤ b ∧ b < x * 64 + 64) S0 S' ∧ (∀ g, g < 64 → S'.1 (27 + p) (x * 64 + g) = S0.1 (27 + p) (x * 64 + g) + S0.1 (27 + (p + 1)) (y * 64 + (g &&& h))) ∧ f_Rows_addWays_L3 (nI p) (nI x) (nI y) (nI h) N (nI f) S = some S' := by
  intro t
  induction t with
  | zero =>
    intro N f S hf hN hF hd he
    obtain ⟨N, rfl⟩ : ∃ M, N = M + 1 := ⟨N - 1, by omega⟩
    have : f = 64 := by omega
    subst this
    refine ⟨S, hF, hd, ?_⟩
    rw [f_Rows_addWays_L3_s]
    simp (disch := omega) only [q_le_t, q_le_f, q_lt_t, q_lt_f, q_eq_t, q_eq_f, q_oob, q_cl, q_mul, nI_add, z0, z1, z2, z4, z6, z7, z8, z64, z512, zT, if_b0, if_b1, if_b01, ite_true, ite_false, ↓reduceIte, Option.bind_some, Sum.elim_inl, Sum.elim_inr]
  | succ t ih =>
    intro N f S hf hN hF hd he
    obtain ⟨N, rfl⟩ : ∃ M, N = M + 1 := ⟨N - 1, by omega⟩
    have hfh : f &&& h ≤ h := Nat.and_le_right
    have e1 := he f (Nat.le_refl f) (by omega)
    have e2 : S.1 (27 + (p + 1)) (y * 64 + (f &&& h)) = S0.1 (27 + (p + 1)) (y * 64 + (f &&& h)) := hF.2 _ _ (by omega)
    obtain ⟨S', j1, j2, j3⟩ := ih N (f + 1) (wI S (27 + p) (x * 64 + f) (S0.1 (27 + p) (x * 64 + f) + S0.1 (27 + (p + 1)) (y * 64 + (f &&& h)))) (by omega) (by omega) (Fr_tr hF (Fr_w ⟨rfl, by omega, by omega⟩)) (fun g hg => by
      rcases Nat.lt_or_ge g f with q | q
      · rw [w_n (by omega)]; exact hd g q
      · have : g = f := by omega
        subst this
        rw [w_s]) (fun g h1 h2 => by rw [w_n (by omega)]; exact he g (by omega) h2)
    refine ⟨S', j1, j2, ?_⟩
    rw [f_Rows_addWays_L3_s]
    simp (disch := omega) only [q_le_t, q_le_f, q_lt_t, q_lt_f, q_eq_t, q_eq_f, q_oob, q_cl, q_mul, nI_add, z0, z1, z2, z4, z6, z7, z8, z64, z512, zT, if_b0, if_b1, if_b01, ite_true, ite_false, ↓reduceIte, Option.bind_some, Sum.elim_inl, Sum.elim_inr, f_Rows_state_s, nx_and, e1, e2]
    exact j3
/-- one depth behind, all depths before it -/
theorem w_dep (hB : BD n m K D st tp) {p y h : Nat} (hp : p + 1 < 6) (hy : y < m) (hh : h < 64) {V : Nat → Nat} {B : Nat → Nat → Nat} : ∀ t N k (S : SS), k + t = m → t < N → CQ n m K D st tp br mu S → (∀ g, g < 64 → S.1 (27 + (p + 1)) (y * 64 + g) = nI (V g)) →
    (∀ x f, x < m → f < 64 → S.1 (27 + p) (x * 64 + f) = nI (if x < k then B x f + bN (May st br x y) * V (f &&& h) else B x f)) →
    ∃ S', Fr (fun a _ => a = 27 + p) S S' ∧ (∀ x f, x < m → f < 64 → S'.1 (27 + p) (x * 64 + f) = nI (B x f + bN (May st br x y) * V (f &&& h))) ∧ f_Rows_countWaysBehind_L52 (nI p) (nI y) (nI h) N (nI k) S = some S' := by
  have hB' := hB
  obtain ⟨b1, b2, b3, b4, b5, b6, b7, b8, b9⟩ := hB
  intro t
  induction t with
  | zero =>
    intro N k S hk hN hR hV hd
    obtain ⟨N, rfl⟩ : ∃ M, N = M + 1 := ⟨N - 1, by omega⟩
    have : k = m := by omega
    subst this
    have r2 := hR.2.1
    refine ⟨S, Fr_rfl, fun x f hx hf => by rw [hd x f hx hf, if_pos hx], ?_⟩
    rw [f_Rows_countWaysBehind_L52_s]
    simp (disch := omega) only [q_le_t, q_le_f, q_lt_t, q_lt_f, q_eq_t, q_eq_f, q_oob, q_cl, q_mul, nI_add, z0, z1, z2, z4, z6, z7, z8, z64, z512, zT, if_b0, if_b1, if_b01, ite_true, ite_false, ↓reduceIte, Option.bind_some, Sum.elim_inl, Sum.elim_inr, r2]
  | succ t ih =>
    intro N k S hk hN hR hV hd
    obtain ⟨N, rfl⟩ : ∃ M, N = M + 1 := ⟨N - 1, by omega⟩
    have r2 := hR.2.1
    have em := c_may hB' hR (show k < 8 by omega) (show y < 8 by omega)
    rcases Classical.em (May st br k y) with g | g
    · obtain ⟨S1, i1, i2, i3⟩ := w_add hp (show k < 8 by omega) (show y < 8 by omega) hh 64 FU 0 S (by omega) (by rw [FU_eq]; omega) Fr_rfl (fun g hg => absurd hg (by omega)) (fun g _ _ => rfl)
      have hF1 : Fr (fun a _ => a = 27 + p) S S1 := Fr_mono (fun a b q => q.1) i1
      obtain ⟨S', j1, j2, j3⟩ := ih N (k + 1) S1 (by omega) (by omega) (CQ_w (Fr_mono (fun a b q => by unfold EW; omega) hF1) hR) (fun g hg => by rw [i1.2 _ _ (by omega)]; exact hV g hg) (fun x f hx hf => by
        by_cases hxk : x = k
        · subst hxk
          have hfh : f &&& h ≤ h := Nat.and_le_right
          rw [i2 f hf, hd x f hx hf, hV _ (by omega), if_neg (by omega), if_pos (by omega), bN_t g, Nat.one_mul, nI_add]
        · rw [i1.2 _ _ (by omega), hd x f hx hf]
          rcases Nat.lt_or_ge x k with q | q
          · rw [if_pos q, if_pos (by omega)]
          · rw [if_neg (by omega), if_neg (by omega)])
      refine ⟨S', Fr_tr hF1 j1, j2, ?_⟩
      rw [f_Rows_countWaysBehind_L52_s]
      simp (disch := omega) only [q_le_t, q_le_f, q_lt_t, q_lt_f, q_eq_t, q_eq_f, q_oob, q_cl, q_mul, nI_add, z0, z1, z2, z4, z6, z7, z8, z64, z512, zT, if_b0, if_b1, if_b01, ite_true, ite_false, ↓reduceIte, Option.bind_some, Sum.elim_inl, Sum.elim_inr, r2, em, f_Rows_addWays_s, i3]
      rw [cif_t g]
      exact j3
    · obtain ⟨S', j1, j2, j3⟩ := ih N (k + 1) S (by omega) (by omega) hR hV (fun x f hx hf => by
        rw [hd x f hx hf]
        by_cases hxk : x = k
        · subst hxk
          rw [if_neg (by omega), if_pos (by omega), bN_f g, Nat.zero_mul, Nat.add_zero]
        · rcases Nat.lt_or_ge x k with q | q
          · rw [if_pos q, if_pos (by omega)]
          · rw [if_neg (by omega), if_neg (by omega)])
      refine ⟨S', j1, j2, ?_⟩
      rw [f_Rows_countWaysBehind_L52_s]
      simp (disch := omega) only [q_le_t, q_le_f, q_lt_t, q_lt_f, q_eq_t, q_eq_f, q_oob, q_cl, q_mul, nI_add, z0, z1, z2, z4, z6, z7, z8, z64, z512, zT, if_b0, if_b1, if_b01, ite_true, ite_false, ↓reduceIte, Option.bind_some, Sum.elim_inl, Sum.elim_inr, r2, em]
      rw [cif_f g]
      exact j3
theorem hold_lt (hD : D ≤ 6) (p x : Nat) : mk (fun d => Held mu c K d p x) D < 64 := by
  have h1 := mk_lt (fun d => Held mu c K d p x) D
  have h2 : 2 ^ D ≤ 2 ^ 6 := Nat.pow_le_pow_right (by omega) hD
  omega
theorem w_next (hB : BD n m K D st tp) {p : Nat} (hp : p + 1 < n) {V : Nat → Nat → Nat} : ∀ t N k (S : SS), k + t = m → t < N → CQ n m K D st tp br mu S → FP n m K D st tp br mu c S → (∀ y g, y < m → g < 64 → S.1 (27 + (p + 1)) (y * 64 + g) = nI (V y g)) →
    (∀ x f, x < m → f < 64 → S.1 (27 + p) (x * 64 + f) = nI (sm (fun y => bN (May st br x y) * V y (f &&& mk (fun d => Held mu c K d (p + 1) y) D)) k)) →
    ∃ S', Fr (fun a _ => a = 27 + p) S S' ∧ (∀ x f, x < m → f < 64 → S'.1 (27 + p) (x * 64 + f) = nI (sm (fun y => bN (May st br x y) * V y (f &&& mk (fun d => Held mu c K d (p + 1) y) D)) m)) ∧ f_Rows_countWaysBehind_L26 (nI p) N (nI k) S = some S' := by
  have hB' := hB
  obtain ⟨b1, b2, b3, b4, b5, b6, b7, b8, b9⟩ := hB
  intro t
  induction t with
  | zero =>
    intro N k S hk hN hR hF hV hd
    obtain ⟨N, rfl⟩ : ∃ M, N = M + 1 := ⟨N - 1, by omega⟩
    have : k = m := by omega
    subst this
    have r2 := hR.2.1
    refine ⟨S, Fr_rfl, hd, ?_⟩
    rw [f_Rows_countWaysBehind_L26_s]
    simp (disch := omega) only [q_le_t, q_le_f, q_lt_t, q_lt_f, q_eq_t, q_eq_f, q_oob, q_cl, q_mul, nI_add, z0, z1, z2, z4, z6, z7, z8, z64, z512, zT, if_b0, if_b1, if_b01, ite_true, ite_false, ↓reduceIte, Option.bind_some, Sum.elim_inl, Sum.elim_inr, r2]
  | succ t ih =>
    intro N k S hk hN hR hF hV hd
    obtain ⟨N, rfl⟩ : ∃ M, N = M + 1 := ⟨N - 1, by omega⟩
    have r2 := hR.2.1
    have eh := c_dH hB' hR hF hp (show k < 8 by omega)
    obtain ⟨S1, i1, i2, i3⟩ := w_dep hB' (show p + 1 < 6 by omega) (show k < m by omega) (hold_lt (mu := mu) (c := c) (K := K) b6 (p + 1) k) (V := V k) (B := fun x f => sm (fun y => bN (May st br x y) * V y (f &&& mk (fun d => Held mu c K d (p + 1) y) D)) k) m FU 0 S (by omega) (by rw [FU_eq]; omega) hR (fun g hg => hV k g (by omega) hg) (fun x f hx hf => by rw [if_neg (by omega)]; exact hd x f hx hf)
    have hFE : Fr EW S S1 := Fr_mono (fun a b q => by unfold EW; omega) i1
    obtain ⟨S', j1, j2, j3⟩ := ih N (k + 1) S1 (by omega) (by omega) (CQ_w hFE hR) (FP_w b5 hFE hF) (fun y g hy hg => by rw [i1.2 _ _ (by omega)]; exact hV y g hy hg) (fun x f hx hf => i2 x f hx hf)
    refine ⟨S', Fr_tr i1 j1, j2, ?_⟩
    rw [f_Rows_countWaysBehind_L26_s]
    simp (disch := omega) only [q_le_t, q_le_f, q_lt_t, q_lt_f, q_eq_t, q_eq_f, q_oob, q_cl, q_mul, nI_add, z0, z1, z2, z4, z6, z7, z8, z64, z512, zT, if_b0, if_b1, if_b01, ite_true, ite_false, ↓reduceIte, Option.bind_some, Sum.elim_inl, Sum.elim_inr, r2, eh, i3]
    exact j3
/-- the ways from a pin on -/
def PW (n m K D st w : Nat) (br mu : Nat → Nat → Prop) (c : Nat → Nat → Nat) (p : Nat) (S : SS) : Prop := ∀ p', p ≤ p' → p' < n → ∀ x f, x < m → f < 64 → S.1 (27 + p') (x * 64 + f) = nI (wy m n w (May st br) (fun p x => mk (fun d => Held mu c K d p x) D) (n - 1 - p') x f)
theorem w_behind (hB : BD n m K D st tp) {p w : Nat} (hp : p + 1 < n) {S : SS} (hR : CQ n m K D st tp br mu S) (hF : FP n m K D st tp br mu c S) (hW : PW n m K D st w br mu c (p + 1) S) :
    ∃ S', Fr EW S S' ∧ PW n m K D st w br mu c p S' ∧ f_Rows_countWaysBehind (nI p) S = some S' := by
  have hB' := hB
  obtain ⟨b1, b2, b3, b4, b5, b6, b7, b8, b9⟩ := hB
  obtain ⟨S1, i1, i2, i3⟩ := w_zero (show p < 6 by omega) 512 FU 0 S (by omega) (by rw [FU_eq]; omega) (fun i hi => absurd hi (by omega))
  have hF1 : Fr EW S S1 := Fr_mono (fun a b q => by unfold EW; omega) i1
  obtain ⟨S2, j1, j2, j3⟩ := w_next hB' hp (V := wy m n w (May st br) (fun p x => mk (fun d => Held mu c K d p x) D) (n - 1 - (p + 1))) m FU 0 S1 (by omega) (by rw [FU_eq]; omega) (CQ_w hF1 hR) (FP_w b5 hF1 hF) (fun y g hy hg => by rw [i1.2 _ _ (by omega)]; exact hW (p + 1) (Nat.le_refl _) hp y g hy hg) (fun x f hx hf => by rw [i2 _ (by omega)]; rfl)
  have hF2 : Fr EW S1 S2 := Fr_mono (fun a b q => by unfold EW; omega) j1
  refine ⟨S2, Fr_tr hF1 hF2, fun p' h1 h2 x f hx hf => ?_, ?_⟩
  · rcases Nat.lt_or_ge p p' with h | h
    · rw [j1.2 _ _ (by omega), i1.2 _ _ (by omega)]
      exact hW p' h h2 x f hx hf
    · have : p' = p := by omega
      subst this
      rw [j2 x f hx hf, show n - 1 - p' = (n - 1 - (p' + 1)) + 1 by omega]
      show _ = nI (sm _ m)
      rw [show n - 1 - (n - 1 - (p' + 1)) = p' + 1 by omega]
  · rw [f_Rows_countWaysBehind_s, z0, i3]
    simp only [q_le_t, q_le_f, q_lt_t, q_lt_f, q_eq_t, q_eq_f, q_oob, q_cl, q_mul, nI_add, z0, z1, z2, z4, z6, z7, z8, z64, z512, zT, if_b0, if_b1, if_b01, ite_true, ite_false, ↓reduceIte, Option.bind_some, Sum.elim_inl, Sum.elim_inr, j3]
theorem w_73 (hB : BD n m K D st tp) {w : Nat} : ∀ p N (S : SS), p + 1 < n → p + 1 < N → CQ n m K D st tp br mu S → FP n m K D st tp br mu c S → PW n m K D st w br mu c (p + 1) S →
    ∃ S', Fr EW S S' ∧ PW n m K D st w br mu c 0 S' ∧ f_Rows_countWays_L73 N (nI p) S = some S' := by
  have hB' := hB
  obtain ⟨b1, b2, b3, b4, b5, b6, b7, b8, b9⟩ := hB
  intro p
  induction p with
  | zero =>
    intro N S hp hN hR hF hW
    obtain ⟨N, rfl⟩ : ∃ M, N = M + 1 := ⟨N - 1, by omega⟩
    obtain ⟨N, rfl⟩ : ∃ M, N = M + 1 := ⟨N - 1, by omega⟩
    obtain ⟨S1, i1, i2, i3⟩ := w_behind hB' hp hR hF hW
    refine ⟨S1, i1, i2, ?_⟩
    rw [f_Rows_countWays_L73_s]
    simp (disch := omega) only [q_le_t, q_le_f, q_lt_t, q_lt_f, q_eq_t, q_eq_f, q_oob, q_cl, q_mul, nI_add, z0, z1, z2, z4, z6, z7, z8, z64, z512, zT, if_b0, if_b1, if_b01, ite_true, ite_false, ↓reduceIte, Option.bind_some, Sum.elim_inl, Sum.elim_inr, i3]
    rw [f_Rows_countWays_L73_s, if_pos (by decide +kernel)]
  | succ p ih =>
    intro N S hp hN hR hF hW
    obtain ⟨N, rfl⟩ : ∃ M, N = M + 1 := ⟨N - 1, by omega⟩
    obtain ⟨S1, i1, i2, i3⟩ := w_behind hB' hp hR hF hW
    obtain ⟨S', j1, j2, j3⟩ := ih N S1 (by omega) (by omega) (CQ_w i1 hR) (FP_w b5 i1 hF) i2
    refine ⟨S', Fr_tr i1 j1, j2, ?_⟩
    rw [f_Rows_countWays_L73_s]
    simp (disch := omega) only [q_le_t, q_le_f, q_lt_t, q_lt_f, q_eq_t, q_eq_f, q_oob, q_cl, q_mul, nI_add, z0, z1, z2, z4, z6, z7, z8, z64, z512, zT, if_b0, if_b1, if_b01, ite_true, ite_false, ↓reduceIte, Option.bind_some, Sum.elim_inl, Sum.elim_inr, i3]
    rw [q_dec]
    exact j3
theorem c_ways (hB : BD n m K D st tp) {w : Nat} (hw : w < 64) {S : SS} (hR : CQ n m K D st tp br mu S) (hF : FP n m K D st tp br mu c S) :
    ∃ S', Fr EW S S' ∧ PW n m K D st w br mu c 0 S' ∧ f_Rows_countWays (nI w) S = some S' := by
  have hB' := hB
  obtain ⟨b1, b2, b3, b4, b5, b6, b7, b8, b9⟩ := hB
  have r1 := hR.1
  obtain ⟨S1, i1, i2, i3⟩ := w_i12 hB' (show n - 1 < 6 by omega) hw m FU 0 S (by omega) (by rw [FU_eq]; omega) hR (fun x g hx => absurd hx (by omega))
  have hF1 : Fr EW S S1 := Fr_mono (fun a b q => by unfold EW; omega) i1
  obtain ⟨S', j1, j2, j3⟩ := w_73 hB' (w := w) (n - 1 - 1) FU S1 (by omega) (by rw [FU_eq]; omega) (CQ_w hF1 hR) (FP_w b5 hF1 hF) (fun p' h1 h2 x f hx hf => by
    have : p' = n - 1 := by omega
    subst this
    rw [i2 x f hx hf, Nat.sub_self]; rfl)
  refine ⟨S', Fr_tr hF1 j1, j2, ?_⟩
  rw [f_Rows_countWays_s]
  simp (disch := omega) only [q_le_t, q_le_f, q_lt_t, q_lt_f, q_eq_t, q_eq_f, q_oob, q_cl, q_mul, nI_add, z0, z1, z2, z4, z6, z7, z8, z64, z512, zT, if_b0, if_b1, if_b01, ite_true, ite_false, ↓reduceIte, Option.bind_some, Sum.elim_inl, Sum.elim_inr, r1, q_sub, i3, j3]
theorem c_ck_L (hB : BD n m K D st tp) {S : SS} (hR : CQ n m K D st tp br mu S) (hF : FP n m K D st tp br mu c S) {P : Nat → Prop} {w : Nat} (hw : w < 64) : ∀ t N k, k + t = K → t < N → f_Board_countKeys_L6 (lN (mk P 48)) (nI w) N (nI (cn (fun k => (∀ i, i < 48 → P i → rb n (c k) i) ∧ mk (FitR mu c n K (c k)) D = w) k)) (nI k) S = some (nI (cn (fun k => (∀ i, i < 48 → P i → rb n (c k) i) ∧ mk (FitR mu c n K (c k)) D = w) K)) := by
  have hB' := hB
  have hR' := hR
  obtain ⟨b1, b2, b3, b4, b5, b6, b7, b8, b9⟩ := hB
  obtain ⟨r1, r2, r3, r4, r5, r6, r7, r8⟩ := hR
  have hD64 : 2 ^ D ≤ 2 ^ 6 := Nat.pow_le_pow_right (by omega) b6
  intro t
  induction t with
  | zero =>
    intro N k hk hN; obtain ⟨N, rfl⟩ : ∃ M, N = M + 1 := ⟨N - 1, by omega⟩
    have : k = K := by omega
    subst this
    rw [f_Board_countKeys_L6_s]
    simp (disch := omega) only [q_le_t, q_le_f, q_lt_t, q_lt_f, q_eq_t, q_eq_f, q_oob, q_cl, q_mul, nI_add, z0, z1, z2, z4, z6, z7, z8, z64, z512, zT, if_b0, if_b1, if_b01, ite_true, ite_false, ↓reduceIte, Option.bind_some, Sum.elim_inl, Sum.elim_inr, r5]
  | succ t ih =>
    intro N k hk hN; obtain ⟨N, rfl⟩ : ∃ M, N = M + 1 := ⟨N - 1, by omega⟩
    have e := hF.2.1 k (by omega)
    have e2 := c_dO hB' hR' hF (show k < K by omega)
    have hlt := mk_lt (FitR mu c n K (c k)) D
    have ih := ih N (k + 1) (by omega) (by omega)
    rw [← ih]
    show _ = f_Board_countKeys_L6 (lN (mk P 48)) (nI w) N (nI (cn (fun k => (∀ i, i < 48 → P i → rb n (c k) i) ∧ mk (FitR mu c n K (c k)) D = w) k + bN ((∀ i, i < 48 → P i → rb n (c k) i) ∧ mk (FitR mu c n K (c k)) D = w))) (nI (k + 1)) S
    rw [f_Board_countKeys_L6_s]
    simp (disch := omega) only [q_le_t, q_le_f, q_lt_t, q_lt_f, q_eq_t, q_eq_f, q_oob, q_cl, q_mul, nI_add, z0, z1, z2, z4, z6, z7, z8, z64, z512, zT, if_b0, if_b1, if_b01, ite_true, ite_false, ↓reduceIte, Option.bind_some, Sum.elim_inl, Sum.elim_inr, r5, e, e2, l_in]
    rcases Classical.em (∀ i, i < 48 → P i → rb n (c k) i) with h | h
    · rw [cif_t h]
      by_cases g : mk (FitR mu c n K (c k)) D = w
      · rw [if_pos (by rw [g]), bN_t (show (∀ i, i < 48 → P i → rb n (c k) i) ∧ mk (FitR mu c n K (c k)) D = w from ⟨h, g⟩)]
      · rw [if_neg (fun q => g ((nI_eq (by omega) (by omega)).mp q)), bN_f (fun q : (∀ i, i < 48 → P i → rb n (c k) i) ∧ mk (FitR mu c n K (c k)) D = w => g q.2)]
        rfl
    · rw [cif_f h, bN_f (fun q : (∀ i, i < 48 → P i → rb n (c k) i) ∧ mk (FitR mu c n K (c k)) D = w => h q.1)]
      rfl
theorem c_ck (hB : BD n m K D st tp) {S : SS} (hR : CQ n m K D st tp br mu S) (hF : FP n m K D st tp br mu c S) {P : Nat → Prop} {w : Nat} (hw : w < 64) : f_Board_countKeys (lN (mk P 48)) (nI w) S = some (nI (cn (fun k => (∀ i, i < 48 → P i → rb n (c k) i) ∧ mk (FitR mu c n K (c k)) D = w) K)) := by
  have h := c_ck_L hB hR hF (P := P) hw K FU 0 (by omega) (by rw [FU_eq]; have := hB; unfold BD at this; omega)
  rw [show cn (fun k => (∀ i, i < 48 → P i → rb n (c k) i) ∧ mk (FitR mu c n K (c k)) D = w) 0 = 0 from rfl] at h
  rw [f_Board_countKeys_s, z0, h]; rfl
theorem c_cf_L (hB : BD n m K D st tp) {S : SS} (hR : CQ n m K D st tp br mu S) (hF : FP n m K D st tp br mu c S) {w : Nat} (hW : PW n m K D st w br mu c 0 S) (x1 : Int32) : ∀ t N k, k + t = m → t < N → f_Rows_countFree_L9 x1 N (nI (sm (fun x => wy m n w (May st br) (fun p x => mk (fun d => Held mu c K d p x) D) (n - 1) x (mk (fun d => Held mu c K d 0 x) D)) k)) (nI k) S = some (nI (sm (fun x => wy m n w (May st br) (fun p x => mk (fun d => Held mu c K d p x) D) (n - 1) x (mk (fun d => Held mu c K d 0 x) D)) m)) := by
  have hB' := hB
  have hR' := hR
  obtain ⟨b1, b2, b3, b4, b5, b6, b7, b8, b9⟩ := hB
  obtain ⟨r1, r2, r3, r4, r5, r6, r7, r8⟩ := hR
  intro t
  induction t with
  | zero =>
    intro N k hk hN; obtain ⟨N, rfl⟩ : ∃ M, N = M + 1 := ⟨N - 1, by omega⟩
    have : k = m := by omega
    subst this
    rw [f_Rows_countFree_L9_s]
    simp (disch := omega) only [q_le_t, q_le_f, q_lt_t, q_lt_f, q_eq_t, q_eq_f, q_oob, q_cl, q_mul, nI_add, z0, z1, z2, z4, z6, z7, z8, z64, z512, zT, if_b0, if_b1, if_b01, ite_true, ite_false, ↓reduceIte, Option.bind_some, Sum.elim_inl, Sum.elim_inr, r2]
  | succ t ih =>
    intro N k hk hN; obtain ⟨N, rfl⟩ : ∃ M, N = M + 1 := ⟨N - 1, by omega⟩
    have eh := c_dH hB' hR' hF (show 0 < n by omega) (show k < 8 by omega)
    have hlt := hold_lt (mu := mu) (c := c) (K := K) b6 0 k
    have ew := hW 0 (Nat.le_refl 0) (by omega) k (mk (fun d => Held mu c K d 0 k) D) (by omega) hlt
    have ih := ih N (k + 1) (by omega) (by omega)
    rw [f_Rows_countFree_L9_s]
    simp (disch := omega) only [q_le_t, q_le_f, q_lt_t, q_lt_f, q_eq_t, q_eq_f, q_oob, q_cl, q_mul, nI_add, z0, z1, z2, z4, z6, z7, z8, z64, z512, zT, if_b0, if_b1, if_b01, ite_true, ite_false, ↓reduceIte, Option.bind_some, Sum.elim_inl, Sum.elim_inr, r2, eh, f_Rows_state_s, ew]
    exact ih
end Ways
