/-! the class's part of the state -/
def CQ (n m K D st tp : Nat) (br mu : Nat → Nat → Prop) (S : SS) : Prop :=
  S.1 1 0 = nI n ∧ S.1 1 1 = nI m ∧ S.1 1 2 = nI st ∧ S.1 1 3 = nI tp ∧ S.1 2 1 = nI K ∧ S.1 2 2 = nI D ∧
  S.2 1 4 = lN (mk (fun i => br (i / 8) (i % 8)) 64) ∧ (∀ k, k < 8 → S.1 5 k = nI (mk (mu k) 6))
def rb (n : Nat) (r : Nat → Nat) (i : Nat) : Prop := i / 8 < n ∧ r (i / 8) = i % 8
def hb (n : Nat) (mu : Nat → Nat → Prop) (c : Nat → Nat → Nat) (j d i : Nat) : Prop := i / 8 < n ∧ Held mu c j d (i / 8) (i % 8)
theorem rb_in {n : Nat} {r : Nat → Nat} {H : Nat → Prop} (hn : n ≤ 6) (hr : ∀ p, p < n → r p < 8) : (∀ i, i < 48 → rb n r i → H i) ↔ ∀ p, p < n → H (8 * p + r p) := by
  constructor
  · intro h p hp
    have := hr p hp
    refine h (8 * p + r p) (by omega) ⟨by omega, ?_⟩
    rw [show (8 * p + r p) / 8 = p by omega]; omega
  · rintro h i hi ⟨h1, h2⟩
    have := h (i / 8) h1
    rw [h2, show 8 * (i / 8) + i % 8 = i by omega] at this
    exact this
theorem rb_eq {n : Nat} {r s : Nat → Nat} (hn : n ≤ 6) (hr : ∀ p, p < n → r p < 8) (hs : ∀ p, p < n → s p < 8) : (∀ i, i < 48 → (rb n r i ↔ rb n s i)) ↔ ∀ p, p < n → r p = s p := by
  constructor
  · intro h p hp
    have h1 := hr p hp
    have h2 := (h (8 * p + r p) (by omega)).mp ⟨by omega, by rw [show (8 * p + r p) / 8 = p by omega]; omega⟩
    have h3 := h2.2
    rw [show (8 * p + r p) / 8 = p by omega] at h3
    omega
  · intro h i hi
    unfold rb
    constructor
    · rintro ⟨h1, h2⟩; exact ⟨h1, by rw [← h _ h1]; exact h2⟩
    · rintro ⟨h1, h2⟩; exact ⟨h1, by rw [h _ h1]; exact h2⟩
theorem hb_fit {n j d : Nat} {mu : Nat → Nat → Prop} {c : Nat → Nat → Nat} {r : Nat → Nat} (hn : n ≤ 6) (hr : ∀ p, p < n → r p < 8) : (∀ i, i < 48 → rb n r i → hb n mu c j d i) ↔ FitR mu c n j r d := by
  rw [rb_in hn hr]
  unfold hb FitR
  constructor
  · intro h p hp
    have h1 := (h p hp).2
    have := hr p hp
    rw [show (8 * p + r p) / 8 = p by omega, show (8 * p + r p) % 8 = r p by omega] at h1
    exact h1
  · intro h p hp
    have := hr p hp
    rw [show (8 * p + r p) / 8 = p by omega, show (8 * p + r p) % 8 = r p by omega]
    exact ⟨hp, h p hp⟩
theorem cn_short {P : Nat → Prop} {m : Nat} : ∀ N, m ≤ N → (∀ i, m ≤ i → ¬ P i) → cn P N = cn P m := by
  intro N h hP
  induction N with
  | zero => have : m = 0 := by omega
            subst this; rfl
  | succ N ih =>
    rcases Nat.lt_or_ge N m with h1 | h1
    · have : m = N + 1 := by omega
      subst this; rfl
    · show cn P N + bN (P N) = _
      rw [ih h1, bN_f (hP N h1)]; rfl
theorem mk_byte (H : Nat → Prop) {p : Nat} (hp : p < 6) : mk H 48 / 2 ^ (p * 8) &&& 255 = mk (fun x => H (8 * p + x)) 8 := by
  apply tb_c; intro i
  rw [Nat.testBit_and, Nat.testBit_div_two_pow, show (255 : Nat) = 2 ^ 8 - 1 from rfl, Nat.testBit_two_pow_sub_one, Bool.and_eq_true, mk_tb, mk_tb, decide_eq_true_eq]
  rw [show i + p * 8 = 8 * p + i by omega]
  constructor
  · rintro ⟨⟨a, b⟩, c⟩; exact ⟨c, b⟩
  · rintro ⟨a, b⟩; exact ⟨⟨by omega, b⟩, a⟩
theorem q_neg1 : ∀ x, x < 8 → ∀ y, y < 8 → y < x → ¬ (nI 0 ≤ nI y - nI x) := by decide +kernel
theorem q_neg2 : ∀ x, x < 8 → ∀ y, y < 8 → y < x → nI 0 - (nI y - nI x) = nI (x - y) := by decide +kernel
section ClsRows
variable {n m K D st tp : Nat} {br mu : Nat → Nat → Prop} {S : SS} {c : Nat → Nat → Nat}
theorem c_bar (hR : CQ n m K D st tp br mu S) {x y : Nat} (hx : x < 8) (hy : y < 8) : f_Law_isBarred (nI x) (nI y) S = some (bI (br x y)) := by
  obtain ⟨r1, r2, r3, r4, r5, r6, r7, r8⟩ := hR
  rw [f_Law_isBarred_s, f_Law_pairBit_s, z8, l_bit (show x * 8 + y < 64 by omega) (by omega)]
  simp only [q_le_t, q_le_f, q_lt_t, q_lt_f, q_eq_t, q_eq_f, q_oob, q_cl, q_mul, nI_add, z0, z1, z2, z4, z6, z7, z8, z64, z512, zT, if_b0, if_b1, if_b01, ite_true, ite_false, ↓reduceIte, Option.bind_some, Sum.elim_inl, Sum.elim_inr, r7, lx_and, mk_and]
  rw [show (0 : Int64) = lN (mk (fun _ => False) 64) by rw [mk_f]; rfl, if_lc (by omega)]
  rcases Classical.em (br x y) with h | h
  · rw [bI_t h, cif_f]
    intro q
    have := (q (x * 8 + y) (by omega)).mp ⟨by rw [show (x * 8 + y) / 8 = x by omega, show (x * 8 + y) % 8 = y by omega]; exact h, rfl⟩
    exact this
  · rw [bI_f h, cif_t]
    rintro i hi
    refine ⟨?_, fun q => q.elim⟩
    rintro ⟨q1, q2⟩
    rw [q2, show (x * 8 + y) / 8 = x by omega, show (x * 8 + y) % 8 = y by omega] at q1
    exact h q1
theorem c_may (hB : BD n m K D st tp) (hR : CQ n m K D st tp br mu S) {x y : Nat} (hx : x < 8) (hy : y < 8) : f_Law_mayFollow (nI x) (nI y) S = some (bI (May st br x y)) := by
  have e := c_bar hR hx hy
  obtain ⟨b1, b2, b3, b4, b5, b6, b7, b8, b9⟩ := hB
  obtain ⟨r1, r2, r3, r4, r5, r6, r7, r8⟩ := hR
  rw [f_Law_mayFollow_s, z0]
  rcases Nat.lt_or_ge y x with h | h
  · rw [if_neg (q_neg1 x hx y hy h), q_neg2 x hx y hy h, r3, e]
    rcases Nat.lt_or_ge st (x - y) with h1 | h1
    · simp (disch := omega) only [q_le_t, q_le_f, q_lt_t, q_lt_f, q_eq_t, q_eq_f, q_oob, q_cl, q_mul, nI_add, z0, z1, z2, z4, z6, z7, z8, z64, z512, zT, if_b0, if_b1, if_b01, ite_true, ite_false, ↓reduceIte, Option.bind_some, Sum.elim_inl, Sum.elim_inr]
      rw [bI_f (fun q : May st br x y => by have := q.1; omega)]
    · simp (disch := omega) only [q_le_t, q_le_f, q_lt_t, q_lt_f, q_eq_t, q_eq_f, q_oob, q_cl, q_mul, nI_add, z0, z1, z2, z4, z6, z7, z8, z64, z512, zT, if_b0, if_b1, if_b01, ite_true, ite_false, ↓reduceIte, Option.bind_some, Sum.elim_inl, Sum.elim_inr]
      rcases Classical.em (br x y) with h2 | h2
      · rw [cif_t h2, bI_f (fun q : May st br x y => q.2.2 h2)]
      · rw [cif_f h2, bI_t (show May st br x y from ⟨by omega, by omega, h2⟩)]
  · simp (disch := omega) only [q_le_t, q_le_f, q_lt_t, q_lt_f, q_eq_t, q_eq_f, q_oob, q_cl, q_mul, nI_add, z0, z1, z2, z4, z6, z7, z8, z64, z512, zT, if_b0, if_b1, if_b01, ite_true, ite_false, ↓reduceIte, Option.bind_some, Sum.elim_inl, Sum.elim_inr, q_sub, r3, e]
    rcases Nat.lt_or_ge st (y - x) with h1 | h1
    · simp (disch := omega) only [q_le_t, q_le_f, q_lt_t, q_lt_f, q_eq_t, q_eq_f, q_oob, q_cl, q_mul, nI_add, z0, z1, z2, z4, z6, z7, z8, z64, z512, zT, if_b0, if_b1, if_b01, ite_true, ite_false, ↓reduceIte, Option.bind_some, Sum.elim_inl, Sum.elim_inr]
      rw [bI_f (fun q : May st br x y => by have := q.2.1; omega)]
    · simp (disch := omega) only [q_le_t, q_le_f, q_lt_t, q_lt_f, q_eq_t, q_eq_f, q_oob, q_cl, q_mul, nI_add, z0, z1, z2, z4, z6, z7, z8, z64, z512, zT, if_b0, if_b1, if_b01, ite_true, ite_false, ↓reduceIte, Option.bind_some, Sum.elim_inl, Sum.elim_inr]
      rcases Classical.em (br x y) with h2 | h2
      · rw [cif_t h2, bI_f (fun q : May st br x y => q.2.2 h2)]
      · rw [cif_f h2, bI_t (show May st br x y from ⟨by omega, by omega, h2⟩)]
theorem c_row_L (hB : BD n m K D st tp) (hR : CQ n m K D st tp br mu S) {j : Nat} {r : Nat → Nat} (hj : j < 8) (hr : ∀ p, p < n → S.1 (10 + j) p = nI (r p) ∧ r p < 8) : ∀ t N k, k + t = n → t < N → f_Board_rowFromCuts_L5 (nI j) N (lN (mk (rb k r) 48)) (nI k) S = some (lN (mk (rb n r) 48)) := by
  obtain ⟨b1, b2, b3, b4, b5, b6, b7, b8, b9⟩ := hB
  obtain ⟨r1, r2, r3, r4, r5, r6, r7, r8⟩ := hR
  intro t
  induction t with
  | zero =>
    intro N k hk hN; obtain ⟨N, rfl⟩ : ∃ M, N = M + 1 := ⟨N - 1, by omega⟩
    have : k = n := by omega
    subst this
    rw [f_Board_rowFromCuts_L5_s]
    simp (disch := omega) only [q_le_t, q_le_f, q_lt_t, q_lt_f, q_eq_t, q_eq_f, q_oob, q_cl, q_mul, nI_add, z0, z1, z2, z4, z6, z7, z8, z64, z512, zT, if_b0, if_b1, if_b01, ite_true, ite_false, ↓reduceIte, Option.bind_some, Sum.elim_inl, Sum.elim_inr, r1]
  | succ t ih =>
    intro N k hk hN; obtain ⟨N, rfl⟩ : ∃ M, N = M + 1 := ⟨N - 1, by omega⟩
    obtain ⟨e1, f1⟩ := hr k (by omega)
    have ih := ih N (k + 1) (by omega) (by omega)
    have eb : f_Board_bit (nI k) (nI (r k)) S = some (lN (mk (fun i => i = k * 8 + r k) 48)) := by
      rw [f_Board_bit_s, z8, l_bit (N := 48) (by omega) (by omega)]
    rw [f_Board_rowFromCuts_L5_s]
    simp (disch := omega) only [q_le_t, q_le_f, q_lt_t, q_lt_f, q_eq_t, q_eq_f, q_oob, q_cl, q_mul, nI_add, z0, z1, z2, z4, z6, z7, z8, z64, z512, zT, if_b0, if_b1, if_b01, ite_true, ite_false, ↓reduceIte, Option.bind_some, Sum.elim_inl, Sum.elim_inr, r1, e1, eb]
    rw [l_or, ← ih]
    congr 2
    apply mk_c
    intro i hi
    unfold rb
    constructor
    · rintro (⟨h1, h2⟩ | h1)
      · exact ⟨by omega, h2⟩
      · rw [h1, show (k * 8 + r k) / 8 = k by omega, show (k * 8 + r k) % 8 = r k by omega]; exact ⟨by omega, rfl⟩
    · rintro ⟨h1, h2⟩
      rcases Nat.lt_or_ge (i / 8) k with h3 | h3
      · exact Or.inl ⟨h3, h2⟩
      · have h4 : i / 8 = k := by omega
        rw [h4] at h2
        exact Or.inr (by omega)
theorem c_row (hB : BD n m K D st tp) (hR : CQ n m K D st tp br mu S) {j : Nat} {r : Nat → Nat} (hj : j < 8) (hr : ∀ p, p < n → S.1 (10 + j) p = nI (r p) ∧ r p < 8) : f_Board_rowFromCuts (nI j) S = some (lN (mk (rb n r) 48)) := by
  rw [f_Board_rowFromCuts_s, z0, show (0 : Int64) = lN (mk (rb 0 r) 48) by rw [show lN (mk (rb 0 r) 48) = lN 0 from congrArg lN ((mk_c (fun i hi => ⟨fun q => absurd q.1 (by omega), fun q => q.elim⟩)).trans (mk_f 48))]; rfl]
  rw [c_row_L hB hR hj hr n FU 0 (by omega) (by rw [FU_eq]; have := hB.2.1; omega)]
  rfl
theorem c_tak_L (hB : BD n m K D st tp) {j : Nat} {r : Nat → Nat} (hj : j ≤ 8) (hr : ∀ p, p < n → r p < 8) (hc : ∀ k p, k < j → p < n → c k p < 8) (hw : ∀ k, k < j → S.2 7 k = lN (mk (rb n (c k)) 48)) : ∀ t N k, k + t = j → t < N → (∀ i, i < k → ¬ ∀ p, p < n → c i p = r p) → f_Board_isTaken_L3 (lN (mk (rb n r) 48)) (nI j) N (nI k) S = some (cif (∀ i, i < j → ¬ ∀ p, p < n → c i p = r p) (.inr ()) (.inl (nI 1))) := by
  obtain ⟨b1, b2, b3, b4, b5, b6, b7, b8, b9⟩ := hB
  intro t
  induction t with
  | zero =>
    intro N k hk hN; obtain ⟨N, rfl⟩ : ∃ M, N = M + 1 := ⟨N - 1, by omega⟩
    intro hh
    have : k = j := by omega
    subst this
    rw [f_Board_isTaken_L3_s]
    simp (disch := omega) only [q_le_t, q_le_f, q_lt_t, q_lt_f, q_eq_t, q_eq_f, q_oob, q_cl, q_mul, nI_add, z0, z1, z2, z4, z6, z7, z8, z64, z512, zT, if_b0, if_b1, if_b01, ite_true, ite_false, ↓reduceIte, Option.bind_some, Sum.elim_inl, Sum.elim_inr]
    rw [cif_t hh]
  | succ t ih =>
    intro N k hk hN; obtain ⟨N, rfl⟩ : ∃ M, N = M + 1 := ⟨N - 1, by omega⟩
    intro hh
    have e := hw k (by omega)
    rw [f_Board_isTaken_L3_s]
    simp (disch := omega) only [q_le_t, q_le_f, q_lt_t, q_lt_f, q_eq_t, q_eq_f, q_oob, q_cl, q_mul, nI_add, z0, z1, z2, z4, z6, z7, z8, z64, z512, zT, if_b0, if_b1, if_b01, ite_true, ite_false, ↓reduceIte, Option.bind_some, Sum.elim_inl, Sum.elim_inr, e]
    rw [if_lc (by omega)]
    rcases Classical.em (∀ p, p < n → c k p = r p) with h | h
    · rw [cif_t ((rb_eq b2 (fun p hp => hc k p (by omega) hp) hr).mpr h), cif_f (fun q => q k (by omega) h)]
    · rw [cif_f (fun q => h ((rb_eq b2 (fun p hp => hc k p (by omega) hp) hr).mp q))]
      exact ih N (k + 1) (by omega) (by omega) (all_s.mpr ⟨hh, h⟩)
theorem c_tak (hB : BD n m K D st tp) {j : Nat} {r : Nat → Nat} (hj : j ≤ 8) (hr : ∀ p, p < n → r p < 8) (hc : ∀ k p, k < j → p < n → c k p < 8) (hw : ∀ k, k < j → S.2 7 k = lN (mk (rb n (c k)) 48)) : f_Board_isTaken (lN (mk (rb n r) 48)) (nI j) S = some (bI (¬ ∀ i, i < j → ¬ ∀ p, p < n → c i p = r p)) := by
  rw [f_Board_isTaken_s, z0, c_tak_L hB hj hr hc hw j FU 0 (by omega) (by rw [FU_eq]; omega) (fun i hi => absurd hi (by omega))]
  simp only [q_le_t, q_le_f, q_lt_t, q_lt_f, q_eq_t, q_eq_f, q_oob, q_cl, q_mul, nI_add, z0, z1, z2, z4, z6, z7, z8, z64, z512, zT, if_b0, if_b1, if_b01, ite_true, ite_false, ↓reduceIte, Option.bind_some, Sum.elim_inl, Sum.elim_inr]
  rcases Classical.em (∀ i, i < j → ¬ ∀ p, p < n → c i p = r p) with h | h
  · rw [cif_t h, bI_f (not_not_intro h)]; rfl
  · rw [cif_f h, bI_t h]; rfl
theorem c_abv_L (hB : BD n m K D st tp) (hR : CQ n m K D st tp br mu S) {H : Nat → Prop} : ∀ t N k, k + t = n → t < N → (∀ p, p < k → cn (fun x => H (8 * p + x)) 8 ≤ tp) → f_Board_isAboveTop_L2 (lN (mk H 48)) N (nI k) S = some (cif (∀ p, p < n → cn (fun x => H (8 * p + x)) 8 ≤ tp) (.inr ()) (.inl (nI 1))) := by
  obtain ⟨b1, b2, b3, b4, b5, b6, b7, b8, b9⟩ := hB
  obtain ⟨r1, r2, r3, r4, r5, r6, r7, r8⟩ := hR
  intro t
  induction t with
  | zero =>
    intro N k hk hN; obtain ⟨N, rfl⟩ : ∃ M, N = M + 1 := ⟨N - 1, by omega⟩
    intro hh
    have : k = n := by omega
    subst this
    rw [f_Board_isAboveTop_L2_s]
    simp (disch := omega) only [q_le_t, q_le_f, q_lt_t, q_lt_f, q_eq_t, q_eq_f, q_oob, q_cl, q_mul, nI_add, z0, z1, z2, z4, z6, z7, z8, z64, z512, zT, if_b0, if_b1, if_b01, ite_true, ite_false, ↓reduceIte, Option.bind_some, Sum.elim_inl, Sum.elim_inr, r1]
    rw [cif_t hh]
  | succ t ih =>
    intro N k hk hN; obtain ⟨N, rfl⟩ : ∃ M, N = M + 1 := ⟨N - 1, by omega⟩
    intro hh
    have h1 := mk_lt H 48
    have h2 := mk_lt (fun x => H (8 * k + x)) 8
    have hle := cn_le (fun x => H (8 * k + x)) 8
    have eb : f_JL_bitCount (((lN (mk H 48)).toUInt64 >>> ((nI k * nI 8).toInt64.toUInt64 &&& Int64.toUInt64 63)).toInt64 &&& 255) S = some (nI (cn (fun x => H (8 * k + x)) 8)) := by
      rw [q_mul, wb_shr (by omega) (by omega), show (255 : Int64) = lN 255 from rfl, lx_and, mk_byte H (by omega), lc_S, lc_dec _ (by omega), pc_more 8 (by omega)]
    rw [f_Board_isAboveTop_L2_s, z8, eb]
    simp (disch := omega) only [q_le_t, q_le_f, q_lt_t, q_lt_f, q_eq_t, q_eq_f, q_oob, q_cl, q_mul, nI_add, z0, z1, z2, z4, z6, z7, z8, z64, z512, zT, if_b0, if_b1, if_b01, ite_true, ite_false, ↓reduceIte, Option.bind_some, Sum.elim_inl, Sum.elim_inr, r1, r4]
    rcases Nat.lt_or_ge tp (cn (fun x => H (8 * k + x)) 8) with h | h
    · simp (disch := omega) only [q_le_t, q_le_f, q_lt_t, q_lt_f, q_eq_t, q_eq_f, q_oob, q_cl, q_mul, nI_add, z0, z1, z2, z4, z6, z7, z8, z64, z512, zT, if_b0, if_b1, if_b01, ite_true, ite_false, ↓reduceIte, Option.bind_some, Sum.elim_inl, Sum.elim_inr]
      rw [cif_f (fun q => by have := q k (by omega); omega)]
    · simp (disch := omega) only [q_le_t, q_le_f, q_lt_t, q_lt_f, q_eq_t, q_eq_f, q_oob, q_cl, q_mul, nI_add, z0, z1, z2, z4, z6, z7, z8, z64, z512, zT, if_b0, if_b1, if_b01, ite_true, ite_false, ↓reduceIte, Option.bind_some, Sum.elim_inl, Sum.elim_inr]
      exact ih N (k + 1) (by omega) (by omega) (all_s.mpr ⟨hh, h⟩)
theorem c_abv (hB : BD n m K D st tp) (hR : CQ n m K D st tp br mu S) {H : Nat → Prop} : f_Board_isAboveTop (lN (mk H 48)) S = some (bI (¬ ∀ p, p < n → cn (fun x => H (8 * p + x)) 8 ≤ tp)) := by
  rw [f_Board_isAboveTop_s, z0, c_abv_L hB hR n FU 0 (by omega) (by rw [FU_eq]; have := hB.2.1; omega) (fun i hi => absurd hi (by omega))]
  simp only [q_le_t, q_le_f, q_lt_t, q_lt_f, q_eq_t, q_eq_f, q_oob, q_cl, q_mul, nI_add, z0, z1, z2, z4, z6, z7, z8, z64, z512, zT, if_b0, if_b1, if_b01, ite_true, ite_false, ↓reduceIte, Option.bind_some, Sum.elim_inl, Sum.elim_inr]
  rcases Classical.em (∀ p, p < n → cn (fun x => H (8 * p + x)) 8 ≤ tp) with h | h
  · rw [cif_t h, bI_f (not_not_intro h)]; rfl
  · rw [cif_f h, bI_t h]; rfl
theorem c_mo (hR : CQ n m K D st tp br mu S) {k d : Nat} (hk : k < 8) (hd : d < 6) : f_Board_mustOpen (nI k) (nI d) S = some (bI (mu k d)) := by
  obtain ⟨r1, r2, r3, r4, r5, r6, r7, r8⟩ := hR
  have e := r8 k hk
  rw [f_Board_mustOpen_s]
  simp (disch := omega) only [q_le_t, q_le_f, q_lt_t, q_lt_f, q_eq_t, q_eq_f, q_oob, q_cl, q_mul, nI_add, z0, z1, z2, z4, z6, z7, z8, z64, z512, zT, if_b0, if_b1, if_b01, ite_true, ite_false, ↓reduceIte, Option.bind_some, Sum.elim_inl, Sum.elim_inr, e, if_bit]
  rcases Classical.em (mu k d) with h | h
  · rw [cif_t h, bI_t h]
  · rw [cif_f h, bI_f h]
theorem c_str_L (hB : BD n m K D st tp) (hR : CQ n m K D st tp br mu S) {H : Nat → Prop} {j d : Nat} (hj : j ≤ 8) (hd : d < 6) (hw : ∀ k, k < j → S.2 7 k = lN (mk (rb n (c k)) 48)) : ∀ t N k, k + t = j → t < N → (∀ i, i < k → ¬ mu i d → ¬ ∀ q, q < 48 → rb n (c i) q → H q) → f_Board_strangerFits_L3 (lN (mk H 48)) (nI d) (nI j) N (nI k) S = some (cif (∀ i, i < j → ¬ mu i d → ¬ ∀ q, q < 48 → rb n (c i) q → H q) (.inr ()) (.inl (nI 1))) := by
  have hR' := hR
  obtain ⟨b1, b2, b3, b4, b5, b6, b7, b8, b9⟩ := hB
  intro t
  induction t with
  | zero =>
    intro N k hk hN; obtain ⟨N, rfl⟩ : ∃ M, N = M + 1 := ⟨N - 1, by omega⟩
    intro hh
    have : k = j := by omega
    subst this
    rw [f_Board_strangerFits_L3_s]
    simp (disch := omega) only [q_le_t, q_le_f, q_lt_t, q_lt_f, q_eq_t, q_eq_f, q_oob, q_cl, q_mul, nI_add, z0, z1, z2, z4, z6, z7, z8, z64, z512, zT, if_b0, if_b1, if_b01, ite_true, ite_false, ↓reduceIte, Option.bind_some, Sum.elim_inl, Sum.elim_inr]
    rw [cif_t hh]
  | succ t ih =>
    intro N k hk hN; obtain ⟨N, rfl⟩ : ∃ M, N = M + 1 := ⟨N - 1, by omega⟩
    intro hh
    have e1 := c_mo hR' (show k < 8 by omega) hd
    have e2 := hw k (by omega)
    rw [f_Board_strangerFits_L3_s]
    simp (disch := omega) only [q_le_t, q_le_f, q_lt_t, q_lt_f, q_eq_t, q_eq_f, q_oob, q_cl, q_mul, nI_add, z0, z1, z2, z4, z6, z7, z8, z64, z512, zT, if_b0, if_b1, if_b01, ite_true, ite_false, ↓reduceIte, Option.bind_some, Sum.elim_inl, Sum.elim_inr, e1, e2, l_in]
    rcases Classical.em (mu k d) with h | h
    · rw [cif_t h]
      exact ih N (k + 1) (by omega) (by omega) (all_s.mpr ⟨hh, fun q => absurd h q⟩)
    · rw [cif_f h]
      rcases Classical.em (∀ q, q < 48 → rb n (c k) q → H q) with h2 | h2
      · rw [cif_t h2, cif_f (fun q => q k (by omega) h h2)]
      · rw [cif_f h2]
        exact ih N (k + 1) (by omega) (by omega) (all_s.mpr ⟨hh, fun _ => h2⟩)
theorem c_str (hB : BD n m K D st tp) (hR : CQ n m K D st tp br mu S) {H : Nat → Prop} {j d : Nat} (hj : j ≤ 8) (hd : d < 6) (hw : ∀ k, k < j → S.2 7 k = lN (mk (rb n (c k)) 48)) : f_Board_strangerFits (lN (mk H 48)) (nI d) (nI j) S = some (bI (¬ ∀ i, i < j → ¬ mu i d → ¬ ∀ q, q < 48 → rb n (c i) q → H q)) := by
  rw [f_Board_strangerFits_s, z0, c_str_L hB hR hj hd hw j FU 0 (by omega) (by rw [FU_eq]; omega) (fun i hi => absurd hi (by omega))]
  simp only [q_le_t, q_le_f, q_lt_t, q_lt_f, q_eq_t, q_eq_f, q_oob, q_cl, q_mul, nI_add, z0, z1, z2, z4, z6, z7, z8, z64, z512, zT, if_b0, if_b1, if_b01, ite_true, ite_false, ↓reduceIte, Option.bind_some, Sum.elim_inl, Sum.elim_inr]
  rcases Classical.em (∀ i, i < j → ¬ mu i d → ¬ ∀ q, q < 48 → rb n (c i) q → H q) with h | h
  · rw [cif_t h, bI_f (not_not_intro h)]; rfl
  · rw [cif_f h, bI_t h]; rfl
end ClsRows
