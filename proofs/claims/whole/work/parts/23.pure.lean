/-! what is meant: held, fitting, lawful -/
def Held (mu : Nat → Nat → Prop) (c : Nat → Nat → Nat) (j d p x : Nat) : Prop := ∃ k, k < j ∧ mu k d ∧ c k p = x
def FitR (mu : Nat → Nat → Prop) (c : Nat → Nat → Nat) (n j : Nat) (r : Nat → Nat) (d : Nat) : Prop := ∀ p, p < n → Held mu c j d p (r p)
def May (st : Nat) (br : Nat → Nat → Prop) (x y : Nat) : Prop := x ≤ y + st ∧ y ≤ x + st ∧ ¬ br x y
def Alike (c : Nat → Nat → Nat) (n i j : Nat) : Prop := ∀ p, p < n → c i p = c j p
def GoodD (n m tp : Nat) (mu : Nat → Nat → Prop) (c : Nat → Nat → Nat) (j d : Nat) : Prop := (∀ p, p < n → cn (Held mu c j d p) m ≤ tp) ∧ ∀ k, k < j → ¬ mu k d → ¬ FitR mu c n j (c k) d
def Good (n m D tp : Nat) (mu : Nat → Nat → Prop) (c : Nat → Nat → Nat) (j : Nat) : Prop := (∀ k, k < j - 1 → ¬ Alike c n k (j - 1)) ∧ ∀ d, d < D → GoodD n m tp mu c j d
theorem all_s {P : Nat → Prop} {k : Nat} : (∀ i, i < k + 1 → P i) ↔ (∀ i, i < k → P i) ∧ P k := by
  constructor
  · intro h; exact ⟨fun i hi => h i (by omega), h k (by omega)⟩
  · rintro ⟨h1, h2⟩ i hi
    rcases Nat.lt_or_ge i k with h | h
    · exact h1 i h
    · have : i = k := by omega
      subst this; exact h2
theorem held_s {mu : Nat → Nat → Prop} {c : Nat → Nat → Nat} {k d p x : Nat} : Held mu c (k + 1) d p x ↔ Held mu c k d p x ∨ (mu k d ∧ c k p = x) := by
  constructor
  · rintro ⟨i, hi, h⟩
    rcases Nat.lt_or_ge i k with h1 | h1
    · exact Or.inl ⟨i, h1, h⟩
    · have : i = k := by omega
      subst this; exact Or.inr h
  · rintro (⟨i, hi, h⟩ | h)
    · exact ⟨i, by omega, h⟩
    · exact ⟨k, by omega, h⟩
theorem nk_lt {n k p : Nat} (hn : n ≤ 6) (hk : k < 8) (hp : p < n) : n * k + p < 48 := by
  have : n * k ≤ n * 7 := Nat.mul_le_mul_left n (by omega)
  omega
/-! the reference's part of the state -/
def RQ (n m K D st tp : Nat) (br mu : Nat → Nat → Prop) (S : SS) : Prop :=
  S.1 33 1 = nI n ∧ S.1 33 2 = nI m ∧ S.1 33 3 = nI K ∧ S.1 33 4 = nI D ∧ S.1 33 6 = nI st ∧ S.1 33 7 = nI tp ∧
  (∀ i j, i < 8 → j < 8 → S.1 35 (8 * i + j) = bI (br i j)) ∧ (∀ k d, k < 8 → d < 6 → S.1 34 (6 * k + d) = bI (mu k d))
def BD (n m K D st tp : Nat) : Prop := 2 ≤ n ∧ n ≤ 6 ∧ 2 ≤ m ∧ m ≤ 8 ∧ K ≤ 8 ∧ D ≤ 6 ∧ st ≤ 7 ∧ 1 ≤ tp ∧ tp ≤ 8
def CU (n j : Nat) (c : Nat → Nat → Nat) (S : SS) : Prop := ∀ k p, k < j → p < n → S.1 36 (n * k + p) = nI (c k p) ∧ c k p < 8
section RefRows
variable {n m K D st tp : Nat} {br mu : Nat → Nat → Prop} {S : SS} {c : Nat → Nat → Nat}
theorem r_may (hB : BD n m K D st tp) (hR : RQ n m K D st tp br mu S) {x y : Nat} (hx : x < 8) (hy : y < 8) : f_RM_mayStand (nI x) (nI y) S = some (bI (May st br x y)) := by
  obtain ⟨b1, b2, b3, b4, b5, b6, b7, b8, b9⟩ := hB
  obtain ⟨r1, r2, r3, r4, r6, r7, r8, r9⟩ := hR
  have e := r8 x y hx hy
  rw [f_RM_mayStand_s]
  rcases Nat.lt_or_ge y x with h | h
  · simp (disch := omega) only [q_le_t, q_le_f, q_lt_t, q_lt_f, q_eq_t, q_eq_f, q_oob, q_cl, q_mul, nI_add, z0, z1, z2, z4, z6, z7, z8, z64, z512, zT, if_b0, if_b1, if_b01, ite_true, ite_false, ↓reduceIte, Option.bind_some, Sum.elim_inl, Sum.elim_inr, r6, e, q_sub]
    rcases Nat.lt_or_ge st (x - y) with h1 | h1
    · simp (disch := omega) only [q_le_t, q_le_f, q_lt_t, q_lt_f, q_eq_t, q_eq_f, q_oob, q_cl, q_mul, nI_add, z0, z1, z2, z4, z6, z7, z8, z64, z512, zT, if_b0, if_b1, if_b01, ite_true, ite_false, ↓reduceIte, Option.bind_some, Sum.elim_inl, Sum.elim_inr]
      rw [bI_f (fun q : May st br x y => by have := q.1; omega)]
    · simp (disch := omega) only [q_le_t, q_le_f, q_lt_t, q_lt_f, q_eq_t, q_eq_f, q_oob, q_cl, q_mul, nI_add, z0, z1, z2, z4, z6, z7, z8, z64, z512, zT, if_b0, if_b1, if_b01, ite_true, ite_false, ↓reduceIte, Option.bind_some, Sum.elim_inl, Sum.elim_inr]
      rcases Classical.em (br x y) with h2 | h2
      · rw [cif_t h2, bI_f (fun q : May st br x y => q.2.2 h2)]
      · rw [cif_f h2, bI_t (show May st br x y from ⟨by omega, by omega, h2⟩)]
  · simp (disch := omega) only [q_le_t, q_le_f, q_lt_t, q_lt_f, q_eq_t, q_eq_f, q_oob, q_cl, q_mul, nI_add, z0, z1, z2, z4, z6, z7, z8, z64, z512, zT, if_b0, if_b1, if_b01, ite_true, ite_false, ↓reduceIte, Option.bind_some, Sum.elim_inl, Sum.elim_inr, r6, e, q_sub]
    rcases Nat.lt_or_ge st (y - x) with h1 | h1
    · simp (disch := omega) only [q_le_t, q_le_f, q_lt_t, q_lt_f, q_eq_t, q_eq_f, q_oob, q_cl, q_mul, nI_add, z0, z1, z2, z4, z6, z7, z8, z64, z512, zT, if_b0, if_b1, if_b01, ite_true, ite_false, ↓reduceIte, Option.bind_some, Sum.elim_inl, Sum.elim_inr]
      rw [bI_f (fun q : May st br x y => by have := q.2.1; omega)]
    · simp (disch := omega) only [q_le_t, q_le_f, q_lt_t, q_lt_f, q_eq_t, q_eq_f, q_oob, q_cl, q_mul, nI_add, z0, z1, z2, z4, z6, z7, z8, z64, z512, zT, if_b0, if_b1, if_b01, ite_true, ite_false, ↓reduceIte, Option.bind_some, Sum.elim_inl, Sum.elim_inr]
      rcases Classical.em (br x y) with h2 | h2
      · rw [cif_t h2, bI_f (fun q : May st br x y => q.2.2 h2)]
      · rw [cif_f h2, bI_t (show May st br x y from ⟨by omega, by omega, h2⟩)]
theorem r_alike_L (hB : BD n m K D st tp) (hR : RQ n m K D st tp br mu S) {i j l : Nat} (hi : i < l) (hj : j < l) (hl : l ≤ 8) (hc : CU n l c S) : ∀ t N k, k + t = n → t < N → f_RM_isAlike_L5 (nI i) (nI j) N (bI (∀ p, p < k → c i p = c j p)) (nI k) S = some (bI (Alike c n i j)) := by
  obtain ⟨b1, b2, b3, b4, b5, b6, b7, b8, b9⟩ := hB
  obtain ⟨r1, r2, r3, r4, r6, r7, r8, r9⟩ := hR
  intro t
  induction t with
  | zero =>
    intro N k hk hN; obtain ⟨N, rfl⟩ : ∃ M, N = M + 1 := ⟨N - 1, by omega⟩
    have : k = n := by omega
    subst this
    rw [f_RM_isAlike_L5_s]
    simp (disch := omega) only [q_le_t, q_le_f, q_lt_t, q_lt_f, q_eq_t, q_eq_f, q_oob, q_cl, q_mul, nI_add, z0, z1, z2, z4, z6, z7, z8, z64, z512, zT, if_b0, if_b1, if_b01, ite_true, ite_false, ↓reduceIte, Option.bind_some, Sum.elim_inl, Sum.elim_inr, r1]
    rfl
  | succ t ih =>
    intro N k hk hN; obtain ⟨N, rfl⟩ : ∃ M, N = M + 1 := ⟨N - 1, by omega⟩
    obtain ⟨e1, f1⟩ := hc i k hi (by omega)
    obtain ⟨e2, f2⟩ := hc j k hj (by omega)
    have g1 := nk_lt b2 (show i < 8 by omega) (show k < n by omega)
    have g2 := nk_lt b2 (show j < 8 by omega) (show k < n by omega)
    have ih := ih N (k + 1) (by omega) (by omega)
    rw [f_RM_isAlike_L5_s]
    simp (disch := omega) only [q_le_t, q_le_f, q_lt_t, q_lt_f, q_eq_t, q_eq_f, q_oob, q_cl, q_mul, nI_add, z0, z1, z2, z4, z6, z7, z8, z64, z512, zT, if_b0, if_b1, if_b01, ite_true, ite_false, ↓reduceIte, Option.bind_some, Sum.elim_inl, Sum.elim_inr, r1, e1, e2]
    rcases Classical.em (∀ p, p < k → c i p = c j p) with h | h
    · rw [cif_t h]
      by_cases e : c i k = c j k
      · rw [if_pos (by rw [e]), ← ih, bI_t (all_s.mpr ⟨h, e⟩)]
      · rw [if_neg (fun q => e ((nI_eq (by omega) (by omega)).mp q)), ← ih, bI_f (fun q : ∀ p, p < k + 1 → c i p = c j p => e (q k (by omega)))]
    · rw [cif_f h]
      rw [← ih, bI_f (fun q => h (all_s.mp q).1)]
theorem r_alike (hB : BD n m K D st tp) (hR : RQ n m K D st tp br mu S) {i j l : Nat} (hi : i < l) (hj : j < l) (hl : l ≤ 8) (hc : CU n l c S) : f_RM_isAlike (nI i) (nI j) S = some (bI (Alike c n i j)) := by
  rw [f_RM_isAlike_s]
  have h := r_alike_L hB hR hi hj hl hc n FU 0 (by omega) (by rw [FU_eq]; have := hB.2.1; omega)
  rw [bI_t (fun p hp => absurd hp (by omega))] at h
  simp only [q_le_t, q_le_f, q_lt_t, q_lt_f, q_eq_t, q_eq_f, q_oob, q_cl, q_mul, nI_add, z0, z1, z2, z4, z6, z7, z8, z64, z512, zT, if_b0, if_b1, if_b01, ite_true, ite_false, ↓reduceIte, Option.bind_some, Sum.elim_inl, Sum.elim_inr, h]
theorem r_held_L (hB : BD n m K D st tp) (hR : RQ n m K D st tp br mu S) {j d p x : Nat} (hd : d < 6) (hp : p < n) (hx : x < 8) (hj : j ≤ 8) (hc : CU n j c S) : ∀ t N k, k + t = j → t < N → f_RM_isHeld_L6 (nI j) (nI d) (nI p) (nI x) N (bI (Held mu c k d p x)) (nI k) S = some (bI (Held mu c j d p x)) := by
  obtain ⟨b1, b2, b3, b4, b5, b6, b7, b8, b9⟩ := hB
  obtain ⟨r1, r2, r3, r4, r6, r7, r8, r9⟩ := hR
  intro t
  induction t with
  | zero =>
    intro N k hk hN; obtain ⟨N, rfl⟩ : ∃ M, N = M + 1 := ⟨N - 1, by omega⟩
    have : k = j := by omega
    subst this
    rw [f_RM_isHeld_L6_s]
    simp (disch := omega) only [q_le_t, q_le_f, q_lt_t, q_lt_f, q_eq_t, q_eq_f, q_oob, q_cl, q_mul, nI_add, z0, z1, z2, z4, z6, z7, z8, z64, z512, zT, if_b0, if_b1, if_b01, ite_true, ite_false, ↓reduceIte, Option.bind_some, Sum.elim_inl, Sum.elim_inr]
  | succ t ih =>
    intro N k hk hN; obtain ⟨N, rfl⟩ : ∃ M, N = M + 1 := ⟨N - 1, by omega⟩
    obtain ⟨e1, f1⟩ := hc k p (by omega) hp
    have e2 := r9 k d (by omega) hd
    have g1 := nk_lt b2 (show k < 8 by omega) hp
    have ih := ih N (k + 1) (by omega) (by omega)
    rw [f_RM_isHeld_L6_s]
    simp (disch := omega) only [q_le_t, q_le_f, q_lt_t, q_lt_f, q_eq_t, q_eq_f, q_oob, q_cl, q_mul, nI_add, z0, z1, z2, z4, z6, z7, z8, z64, z512, zT, if_b0, if_b1, if_b01, ite_true, ite_false, ↓reduceIte, Option.bind_some, Sum.elim_inl, Sum.elim_inr, r1, e1, e2]
    rcases Classical.em (Held mu c k d p x) with h | h
    · rw [cif_t h]
      rw [← ih, bI_t (held_s.mpr (Or.inl h))]
    · rw [cif_f h]
      rcases Classical.em (mu k d) with h1 | h1
      · rw [cif_t h1]
        by_cases e : c k p = x
        · rw [if_pos (by rw [e]), ← ih, bI_t (held_s.mpr (Or.inr ⟨h1, e⟩))]
        · rw [if_neg (fun q => e ((nI_eq (by omega) (by omega)).mp q)), ← ih, bI_f (fun q => (held_s.mp q).elim h (fun q => e q.2))]
      · rw [cif_f h1]
        rw [← ih, bI_f (fun q => (held_s.mp q).elim h (fun q => h1 q.1))]
theorem r_held (hB : BD n m K D st tp) (hR : RQ n m K D st tp br mu S) {j d p x : Nat} (hd : d < 6) (hp : p < n) (hx : x < 8) (hj : j ≤ 8) (hc : CU n j c S) : f_RM_isHeld (nI j) (nI d) (nI p) (nI x) S = some (bI (Held mu c j d p x)) := by
  rw [f_RM_isHeld_s]
  have h := r_held_L hB hR hd hp hx hj hc j FU 0 (by omega) (by rw [FU_eq]; omega)
  rw [bI_f (fun q => by obtain ⟨k, hk, _⟩ := q; omega)] at h
  simp only [q_le_t, q_le_f, q_lt_t, q_lt_f, q_eq_t, q_eq_f, q_oob, q_cl, q_mul, nI_add, z0, z1, z2, z4, z6, z7, z8, z64, z512, zT, if_b0, if_b1, if_b01, ite_true, ite_false, ↓reduceIte, Option.bind_some, Sum.elim_inl, Sum.elim_inr, h]
theorem r_fit_L (hB : BD n m K D st tp) (hR : RQ n m K D st tp br mu S) {j d i : Nat} (hd : d < 6) (hi : i < j) (hj : j ≤ 8) (hc : CU n j c S) : ∀ t N k, k + t = n → t < N → f_RM_isFitting_L6 (nI j) (nI i) (nI d) N (bI (∀ p, p < k → Held mu c j d p (c i p))) (nI k) S = some (bI (FitR mu c n j (c i) d)) := by
  have hB' := hB
  have hR' := hR
  obtain ⟨b1, b2, b3, b4, b5, b6, b7, b8, b9⟩ := hB
  obtain ⟨r1, r2, r3, r4, r6, r7, r8, r9⟩ := hR
  intro t
  induction t with
  | zero =>
    intro N k hk hN; obtain ⟨N, rfl⟩ : ∃ M, N = M + 1 := ⟨N - 1, by omega⟩
    have : k = n := by omega
    subst this
    rw [f_RM_isFitting_L6_s]
    simp (disch := omega) only [q_le_t, q_le_f, q_lt_t, q_lt_f, q_eq_t, q_eq_f, q_oob, q_cl, q_mul, nI_add, z0, z1, z2, z4, z6, z7, z8, z64, z512, zT, if_b0, if_b1, if_b01, ite_true, ite_false, ↓reduceIte, Option.bind_some, Sum.elim_inl, Sum.elim_inr, r1]
    rfl
  | succ t ih =>
    intro N k hk hN; obtain ⟨N, rfl⟩ : ∃ M, N = M + 1 := ⟨N - 1, by omega⟩
    obtain ⟨e1, f1⟩ := hc i k hi (by omega)
    have g1 := nk_lt b2 (show i < 8 by omega) (show k < n by omega)
    have ih := ih N (k + 1) (by omega) (by omega)
    have e2 := r_held hB' hR' hd (show k < n by omega) f1 hj hc
    rw [f_RM_isFitting_L6_s]
    simp (disch := omega) only [q_le_t, q_le_f, q_lt_t, q_lt_f, q_eq_t, q_eq_f, q_oob, q_cl, q_mul, nI_add, z0, z1, z2, z4, z6, z7, z8, z64, z512, zT, if_b0, if_b1, if_b01, ite_true, ite_false, ↓reduceIte, Option.bind_some, Sum.elim_inl, Sum.elim_inr, r1, e1, e2]
    rcases Classical.em (∀ p, p < k → Held mu c j d p (c i p)) with h | h
    · rw [cif_t h]
      rcases Classical.em (Held mu c j d k (c i k)) with e | e
      · rw [cif_t e]
        rw [← ih, bI_t (all_s.mpr ⟨h, e⟩)]
      · rw [cif_f e]
        rw [← ih, bI_f (fun q : ∀ p, p < k + 1 → Held mu c j d p (c i p) => e (q k (by omega)))]
    · rw [cif_f h]
      rw [← ih, bI_f (fun q => h (all_s.mp q).1)]
theorem r_fit (hB : BD n m K D st tp) (hR : RQ n m K D st tp br mu S) {j d i : Nat} (hd : d < 6) (hi : i < j) (hj : j ≤ 8) (hc : CU n j c S) : f_RM_isFitting (nI j) (nI i) (nI d) S = some (bI (FitR mu c n j (c i) d)) := by
  rw [f_RM_isFitting_s]
  have h := r_fit_L hB hR hd hi hj hc n FU 0 (by omega) (by rw [FU_eq]; have := hB.2.1; omega)
  rw [bI_t (fun p hp => absurd hp (by omega))] at h
  simp only [q_le_t, q_le_f, q_lt_t, q_lt_f, q_eq_t, q_eq_f, q_oob, q_cl, q_mul, nI_add, z0, z1, z2, z4, z6, z7, z8, z64, z512, zT, if_b0, if_b1, if_b01, ite_true, ite_false, ↓reduceIte, Option.bind_some, Sum.elim_inl, Sum.elim_inr, h]

theorem r_gd2_L (hB : BD n m K D st tp) (hR : RQ n m K D st tp br mu S) {j : Nat} (h1 : 1 ≤ j) (hj : j ≤ 8) (hc : CU n j c S) : ∀ t N k, k + t = j - 1 → t < N → (∀ i, i < k → ¬ Alike c n i (j - 1)) → f_RM_areGood_L2 (nI j) N (nI k) S = some (cif (∀ i, i < j - 1 → ¬ Alike c n i (j - 1)) (.inr ()) (.inl (nI 0))) := by
  have hB' := hB
  have hR' := hR
  obtain ⟨b1, b2, b3, b4, b5, b6, b7, b8, b9⟩ := hB
  obtain ⟨r1, r2, r3, r4, r6, r7, r8, r9⟩ := hR
  intro t
  induction t with
  | zero =>
    intro N k hk hN; obtain ⟨N, rfl⟩ : ∃ M, N = M + 1 := ⟨N - 1, by omega⟩
    intro hh
    have : k = j - 1 := by omega
    subst this
    rw [f_RM_areGood_L2_s]
    simp (disch := omega) only [q_le_t, q_le_f, q_lt_t, q_lt_f, q_eq_t, q_eq_f, q_oob, q_cl, q_mul, nI_add, z0, z1, z2, z4, z6, z7, z8, z64, z512, zT, if_b0, if_b1, if_b01, ite_true, ite_false, ↓reduceIte, Option.bind_some, Sum.elim_inl, Sum.elim_inr, q_sub]
    rw [cif_t hh]
  | succ t ih =>
    intro N k hk hN; obtain ⟨N, rfl⟩ : ∃ M, N = M + 1 := ⟨N - 1, by omega⟩
    intro hh
    have e1 := r_alike hB' hR' (show k < j by omega) (show j - 1 < j by omega) hj hc
    rw [f_RM_areGood_L2_s]
    simp (disch := omega) only [q_le_t, q_le_f, q_lt_t, q_lt_f, q_eq_t, q_eq_f, q_oob, q_cl, q_mul, nI_add, z0, z1, z2, z4, z6, z7, z8, z64, z512, zT, if_b0, if_b1, if_b01, ite_true, ite_false, ↓reduceIte, Option.bind_some, Sum.elim_inl, Sum.elim_inr, q_sub, e1]
    rcases Classical.em (Alike c n k (j - 1)) with h | h
    · rw [cif_t h, cif_f (fun q => q k (by omega) h)]
    · rw [cif_f h]
      exact ih N (k + 1) (by omega) (by omega) (all_s.mpr ⟨hh, h⟩)
theorem r_cnt_L (hB : BD n m K D st tp) (hR : RQ n m K D st tp br mu S) {j d p : Nat} (hd : d < 6) (hp : p < n) (hj : j ≤ 8) (hc : CU n j c S) : ∀ t N k, k + t = m → t < N → f_RM_areGood_L54 (nI j) (nI d) (nI p) N (nI (cn (Held mu c j d p) k)) (nI k) S = some (nI (cn (Held mu c j d p) m)) := by
  have hB' := hB
  have hR' := hR
  obtain ⟨b1, b2, b3, b4, b5, b6, b7, b8, b9⟩ := hB
  obtain ⟨r1, r2, r3, r4, r6, r7, r8, r9⟩ := hR
  intro t
  induction t with
  | zero =>
    intro N k hk hN; obtain ⟨N, rfl⟩ : ∃ M, N = M + 1 := ⟨N - 1, by omega⟩
    have : k = m := by omega
    subst this
    rw [f_RM_areGood_L54_s]
    simp (disch := omega) only [q_le_t, q_le_f, q_lt_t, q_lt_f, q_eq_t, q_eq_f, q_oob, q_cl, q_mul, nI_add, z0, z1, z2, z4, z6, z7, z8, z64, z512, zT, if_b0, if_b1, if_b01, ite_true, ite_false, ↓reduceIte, Option.bind_some, Sum.elim_inl, Sum.elim_inr, r2]
  | succ t ih =>
    intro N k hk hN; obtain ⟨N, rfl⟩ : ∃ M, N = M + 1 := ⟨N - 1, by omega⟩
    have e1 := r_held hB' hR' hd hp (show k < 8 by omega) hj hc
    have ih := ih N (k + 1) (by omega) (by omega)
    rw [f_RM_areGood_L54_s]
    simp (disch := omega) only [q_le_t, q_le_f, q_lt_t, q_lt_f, q_eq_t, q_eq_f, q_oob, q_cl, q_mul, nI_add, z0, z1, z2, z4, z6, z7, z8, z64, z512, zT, if_b0, if_b1, if_b01, ite_true, ite_false, ↓reduceIte, Option.bind_some, Sum.elim_inl, Sum.elim_inr, r2, e1]
    rcases Classical.em (Held mu c j d p k) with h | h
    · rw [cif_t h, ← ih]
      show _ = f_RM_areGood_L54 _ _ _ _ (nI (cn (Held mu c j d p) k + bN (Held mu c j d p k))) _ _
      rw [bN_t h]
    · rw [cif_f h, ← ih]
      show _ = f_RM_areGood_L54 _ _ _ _ (nI (cn (Held mu c j d p) k + bN (Held mu c j d p k))) _ _
      rw [bN_f h]
theorem r_top_L (hB : BD n m K D st tp) (hR : RQ n m K D st tp br mu S) {j d : Nat} (hd : d < 6) (hj : j ≤ 8) (hc : CU n j c S) : ∀ t N k, k + t = n → t < N → (∀ p, p < k → cn (Held mu c j d p) m ≤ tp) → f_RM_areGood_L40 (nI j) (nI d) N (nI k) S = some (cif (∀ p, p < n → cn (Held mu c j d p) m ≤ tp) (.inr ()) (.inl (nI 0))) := by
  have hB' := hB
  have hR' := hR
  obtain ⟨b1, b2, b3, b4, b5, b6, b7, b8, b9⟩ := hB
  obtain ⟨r1, r2, r3, r4, r6, r7, r8, r9⟩ := hR
  intro t
  induction t with
  | zero =>
    intro N k hk hN; obtain ⟨N, rfl⟩ : ∃ M, N = M + 1 := ⟨N - 1, by omega⟩
    intro hh
    have : k = n := by omega
    subst this
    rw [f_RM_areGood_L40_s]
    simp (disch := omega) only [q_le_t, q_le_f, q_lt_t, q_lt_f, q_eq_t, q_eq_f, q_oob, q_cl, q_mul, nI_add, z0, z1, z2, z4, z6, z7, z8, z64, z512, zT, if_b0, if_b1, if_b01, ite_true, ite_false, ↓reduceIte, Option.bind_some, Sum.elim_inl, Sum.elim_inr, r1]
    rw [cif_t hh]
  | succ t ih =>
    intro N k hk hN; obtain ⟨N, rfl⟩ : ∃ M, N = M + 1 := ⟨N - 1, by omega⟩
    intro hh
    have e1 := r_cnt_L hB' hR' hd (show k < n by omega) hj hc m FU 0 (by omega) (by rw [FU_eq]; omega)
    have hle := cn_le (Held mu c j d k) m
    rw [show cn (Held mu c j d k) 0 = 0 from rfl] at e1
    rw [f_RM_areGood_L40_s]
    simp (disch := omega) only [q_le_t, q_le_f, q_lt_t, q_lt_f, q_eq_t, q_eq_f, q_oob, q_cl, q_mul, nI_add, z0, z1, z2, z4, z6, z7, z8, z64, z512, zT, if_b0, if_b1, if_b01, ite_true, ite_false, ↓reduceIte, Option.bind_some, Sum.elim_inl, Sum.elim_inr, r1, r7, e1]
    rcases Nat.lt_or_ge tp (cn (Held mu c j d k) m) with h | h
    · simp (disch := omega) only [q_le_t, q_le_f, q_lt_t, q_lt_f, q_eq_t, q_eq_f, q_oob, q_cl, q_mul, nI_add, z0, z1, z2, z4, z6, z7, z8, z64, z512, zT, if_b0, if_b1, if_b01, ite_true, ite_false, ↓reduceIte, Option.bind_some, Sum.elim_inl, Sum.elim_inr]
      rw [cif_f (fun q => by have := q k (by omega); omega)]
    · simp (disch := omega) only [q_le_t, q_le_f, q_lt_t, q_lt_f, q_eq_t, q_eq_f, q_oob, q_cl, q_mul, nI_add, z0, z1, z2, z4, z6, z7, z8, z64, z512, zT, if_b0, if_b1, if_b01, ite_true, ite_false, ↓reduceIte, Option.bind_some, Sum.elim_inl, Sum.elim_inr]
      exact ih N (k + 1) (by omega) (by omega) (all_s.mpr ⟨hh, h⟩)
theorem r_str_L (hB : BD n m K D st tp) (hR : RQ n m K D st tp br mu S) {j d : Nat} (hd : d < 6) (hj : j ≤ 8) (hc : CU n j c S) : ∀ t N k, k + t = j → t < N → (∀ i, i < k → ¬ mu i d → ¬ FitR mu c n j (c i) d) → f_RM_areGood_L110 (nI j) (nI d) N (nI k) S = some (cif (∀ i, i < j → ¬ mu i d → ¬ FitR mu c n j (c i) d) (.inr ()) (.inl (nI 0))) := by
  have hB' := hB
  have hR' := hR
  obtain ⟨b1, b2, b3, b4, b5, b6, b7, b8, b9⟩ := hB
  obtain ⟨r1, r2, r3, r4, r6, r7, r8, r9⟩ := hR
  intro t
  induction t with
  | zero =>
    intro N k hk hN; obtain ⟨N, rfl⟩ : ∃ M, N = M + 1 := ⟨N - 1, by omega⟩
    intro hh
    have : k = j := by omega
    subst this
    rw [f_RM_areGood_L110_s]
    simp (disch := omega) only [q_le_t, q_le_f, q_lt_t, q_lt_f, q_eq_t, q_eq_f, q_oob, q_cl, q_mul, nI_add, z0, z1, z2, z4, z6, z7, z8, z64, z512, zT, if_b0, if_b1, if_b01, ite_true, ite_false, ↓reduceIte, Option.bind_some, Sum.elim_inl, Sum.elim_inr]
    rw [cif_t hh]
  | succ t ih =>
    intro N k hk hN; obtain ⟨N, rfl⟩ : ∃ M, N = M + 1 := ⟨N - 1, by omega⟩
    intro hh
    have e1 := r_fit hB' hR' hd (show k < j by omega) hj hc
    have e2 := r9 k d (by omega) hd
    rw [f_RM_areGood_L110_s]
    simp (disch := omega) only [q_le_t, q_le_f, q_lt_t, q_lt_f, q_eq_t, q_eq_f, q_oob, q_cl, q_mul, nI_add, z0, z1, z2, z4, z6, z7, z8, z64, z512, zT, if_b0, if_b1, if_b01, ite_true, ite_false, ↓reduceIte, Option.bind_some, Sum.elim_inl, Sum.elim_inr, e2, e1]
    rcases Classical.em (mu k d) with h | h
    · rw [cif_t h]
      exact ih N (k + 1) (by omega) (by omega) (all_s.mpr ⟨hh, fun q => absurd h q⟩)
    · rw [cif_f h]
      rcases Classical.em (FitR mu c n j (c k) d) with h2 | h2
      · rw [cif_t h2, cif_f (fun q => q k (by omega) h h2)]
      · rw [cif_f h2]
        exact ih N (k + 1) (by omega) (by omega) (all_s.mpr ⟨hh, fun _ => h2⟩)
theorem r_gdd_L (hB : BD n m K D st tp) (hR : RQ n m K D st tp br mu S) {j : Nat} (hj : j ≤ 8) (hc : CU n j c S) : ∀ t N k, k + t = D → t < N → (∀ d, d < k → GoodD n m tp mu c j d) → f_RM_areGood_L30 (nI j) N (nI k) S = some (cif (∀ d, d < D → GoodD n m tp mu c j d) (.inr ()) (.inl (nI 0))) := by
  have hB' := hB
  have hR' := hR
  obtain ⟨b1, b2, b3, b4, b5, b6, b7, b8, b9⟩ := hB
  obtain ⟨r1, r2, r3, r4, r6, r7, r8, r9⟩ := hR
  intro t
  induction t with
  | zero =>
    intro N k hk hN; obtain ⟨N, rfl⟩ : ∃ M, N = M + 1 := ⟨N - 1, by omega⟩
    intro hh
    have : k = D := by omega
    subst this
    rw [f_RM_areGood_L30_s]
    simp (disch := omega) only [q_le_t, q_le_f, q_lt_t, q_lt_f, q_eq_t, q_eq_f, q_oob, q_cl, q_mul, nI_add, z0, z1, z2, z4, z6, z7, z8, z64, z512, zT, if_b0, if_b1, if_b01, ite_true, ite_false, ↓reduceIte, Option.bind_some, Sum.elim_inl, Sum.elim_inr, r4]
    rw [cif_t hh]
  | succ t ih =>
    intro N k hk hN; obtain ⟨N, rfl⟩ : ∃ M, N = M + 1 := ⟨N - 1, by omega⟩
    intro hh
    have e1 := r_top_L hB' hR' (show k < 6 by omega) hj hc n FU 0 (by omega) (by rw [FU_eq]; omega) (fun p hp => absurd hp (by omega))
    have e2 := r_str_L hB' hR' (show k < 6 by omega) hj hc j FU 0 (by omega) (by rw [FU_eq]; omega) (fun p hp => absurd hp (by omega))
    rw [f_RM_areGood_L30_s]
    simp (disch := omega) only [q_le_t, q_le_f, q_lt_t, q_lt_f, q_eq_t, q_eq_f, q_oob, q_cl, q_mul, nI_add, z0, z1, z2, z4, z6, z7, z8, z64, z512, zT, if_b0, if_b1, if_b01, ite_true, ite_false, ↓reduceIte, Option.bind_some, Sum.elim_inl, Sum.elim_inr, r4, e1, e2]
    rcases Classical.em (∀ p, p < n → cn (Held mu c j k p) m ≤ tp) with h | h
    · rw [cif_t h]
      simp only [q_le_t, q_le_f, q_lt_t, q_lt_f, q_eq_t, q_eq_f, q_oob, q_cl, q_mul, nI_add, z0, z1, z2, z4, z6, z7, z8, z64, z512, zT, if_b0, if_b1, if_b01, ite_true, ite_false, ↓reduceIte, Option.bind_some, Sum.elim_inl, Sum.elim_inr]
      rcases Classical.em (∀ i, i < j → ¬ mu i k → ¬ FitR mu c n j (c i) k) with h2 | h2
      · rw [cif_t h2]
        exact ih N (k + 1) (by omega) (by omega) (all_s.mpr ⟨hh, h, h2⟩)
      · rw [cif_f h2, cif_f (fun q => h2 (q k (by omega)).2)]
        rfl
    · rw [cif_f h, cif_f (fun q : ∀ d, d < D → GoodD n m tp mu c j d => h (q k (by omega)).1)]
      rfl
theorem r_good (hB : BD n m K D st tp) (hR : RQ n m K D st tp br mu S) {j : Nat} (h1 : 1 ≤ j) (hj : j ≤ 8) (hc : CU n j c S) : f_RM_areGood (nI j) S = some (bI (Good n m D tp mu c j)) := by
  have e1 := r_gd2_L hB hR h1 hj hc (j - 1) FU 0 (by omega) (by rw [FU_eq]; omega) (fun p hp => absurd hp (by omega))
  have e2 := r_gdd_L hB hR hj hc D FU 0 (by omega) (by rw [FU_eq]; have := hB; unfold BD at this; omega) (fun p hp => absurd hp (by omega))
  rw [f_RM_areGood_s]
  simp only [q_le_t, q_le_f, q_lt_t, q_lt_f, q_eq_t, q_eq_f, q_oob, q_cl, q_mul, nI_add, z0, z1, z2, z4, z6, z7, z8, z64, z512, zT, if_b0, if_b1, if_b01, ite_true, ite_false, ↓reduceIte, Option.bind_some, Sum.elim_inl, Sum.elim_inr, e1, e2]
  rcases Classical.em (∀ i, i < j - 1 → ¬ Alike c n i (j - 1)) with h | h
  · rw [cif_t h]
    simp only [q_le_t, q_le_f, q_lt_t, q_lt_f, q_eq_t, q_eq_f, q_oob, q_cl, q_mul, nI_add, z0, z1, z2, z4, z6, z7, z8, z64, z512, zT, if_b0, if_b1, if_b01, ite_true, ite_false, ↓reduceIte, Option.bind_some, Sum.elim_inl, Sum.elim_inr]
    rcases Classical.em (∀ d, d < D → GoodD n m tp mu c j d) with h2 | h2
    · rw [cif_t h2, bI_t (show Good n m D tp mu c j from ⟨h, h2⟩)]; rfl
    · rw [cif_f h2, bI_f (fun q : Good n m D tp mu c j => h2 q.2)]; rfl
  · rw [cif_f h, bI_f (fun q : Good n m D tp mu c j => h q.1)]; rfl
end RefRows
