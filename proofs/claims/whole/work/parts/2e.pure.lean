/-! rows that begin so, the keys among them taken away -/
section Cnt
variable {n m K D w : Nat} {may : Nat → Nat → Prop} {H : Nat → Nat → Nat → Prop} {c : Nat → Nat → Nat}
theorem full_c {r s : Nat → Nat} (h : ∀ p, p < n → r p = s p) : Full n m D w may H r ↔ Full n m D w may H s := by
  unfold Full
  have e : mk (fun d => ∀ p, p < n → H d p (r p)) D = mk (fun d => ∀ p, p < n → H d p (s p)) D := by
    apply mk_c
    intro d _
    constructor
    · intro q p hp; rw [← h p hp]; exact q p hp
    · intro q p hp; rw [h p hp]; exact q p hp
  rw [e]
  constructor
  · rintro ⟨q1, q2⟩; exact ⟨fun p hp => by rw [← h p (by omega), ← h (p + 1) hp]; exact q1 p hp, q2⟩
  · rintro ⟨q1, q2⟩; exact ⟨fun p hp => by rw [h p (by omega), h (p + 1) hp]; exact q1 p hp, q2⟩
theorem num_inj (hc : ∀ k p, k < K → p < n → c k p < m) (hd : ∀ i k, i < k → k < K → ¬ Alike c n i k) : ∀ i k, i < k → k < K → ¬ nm m (c i) n = nm m (c k) n := by
  intro i k h1 h2 e
  exact hd i k h1 h2 (nm_inj n (fun p hp => hc i p (by omega) hp) (fun p hp => hc k p h2 hp) e)
theorem pre_count (hm : 0 < m) (hc : ∀ k p, k < K → p < n → c k p < m) (hl : ∀ k p, k < K → p + 1 < n → may (c k p) (c k (p + 1))) (hd : ∀ i k, i < k → k < K → ¬ Alike c n i k)
    {r : Nat → Nat} {p q : Nat} (hpq : p + q + 1 = n) (hr : ∀ i, i ≤ p → r i < m) (hlr : ∀ i, i + 1 ≤ p → may (r i) (r (i + 1))) :
    cn (fun R' => Full n m D w may H (dg m n (nm m r (p + 1) * m ^ q + R')) ∧ ∀ k, k < K → ¬ nm m (c k) n = nm m r (p + 1) * m ^ q + R') (m ^ q) + cn (fun k => (∀ i, i ≤ p → c k i = r i) ∧ mk (fun d => ∀ p, p < n → H d p (c k p)) D = w) K = wy m n w may (fun p x => mk (fun d => H d p x) D) q (r p) (mk (fun d => ∀ i, i ≤ p → H d i (r i)) D) := by
  have h1 := cn_keys (P := fun R' => Full n m D w may H (dg m n (nm m r (p + 1) * m ^ q + R'))) (num := fun k => nm m (c k) n) (b := nm m r (p + 1) * m ^ q) (M := m ^ q) K (num_inj hc hd)
  have hp : 0 < m ^ q := Nat.pow_pos hm
  have h2 : cn (fun R' => Full n m D w may H (dg m n (nm m r (p + 1) * m ^ q + R'))) (m ^ q) = wy m n w may (fun p x => mk (fun d => H d p x) D) q (r p) (mk (fun d => ∀ i, i ≤ p → H d i (r i)) D) := by
    rw [← wy_cn hm]
    exact cn_c (fun R' hR' => (sfx_full hm hpq hr hlr hR').symm)
  have h3 : cn (fun k => (nm m r (p + 1) * m ^ q ≤ nm m (c k) n ∧ nm m (c k) n < nm m r (p + 1) * m ^ q + m ^ q) ∧ Full n m D w may H (dg m n (nm m r (p + 1) * m ^ q + (nm m (c k) n - nm m r (p + 1) * m ^ q)))) K = cn (fun k => (∀ i, i ≤ p → c k i = r i) ∧ mk (fun d => ∀ p, p < n → H d p (c k p)) D = w) K := by
    apply cn_c
    intro k hk
    have hck : ∀ p, p < n → c k p < m := fun p hp => hc k p hk hp
    have hlt := nm_lt hck
    have hpre := pre_eq hm hlt (r := r) (j := p + 1) (by omega) (fun i hi => hr i (by omega))
    rw [show n - (p + 1) = q by omega] at hpre
    have hiv : (nm m r (p + 1) * m ^ q ≤ nm m (c k) n ∧ nm m (c k) n < nm m r (p + 1) * m ^ q + m ^ q) ↔ nm m (c k) n / m ^ q = nm m r (p + 1) := by
      rw [Nat.div_eq_iff hp]
      constructor
      · rintro ⟨a, b⟩; exact ⟨by omega, by omega⟩
      · rintro ⟨a, b⟩; exact ⟨by omega, by omega⟩
    have hdig : (∀ i, i < p + 1 → dg m n (nm m (c k) n) i = r i) ↔ ∀ i, i ≤ p → c k i = r i := by
      constructor
      · intro q i hi; rw [← dg_nm hm hck (show i < n by omega)]; exact q i (by omega)
      · intro q i hi; rw [dg_nm hm hck (show i < n by omega)]; exact q i (by omega)
    have hfull : ∀ R, R = nm m (c k) n → (Full n m D w may H (dg m n R) ↔ mk (fun d => ∀ p, p < n → H d p (c k p)) D = w) := by
      rintro R rfl
      rw [full_c (fun p hp => dg_nm hm hck hp)]
      unfold Full
      exact ⟨fun q => q.2, fun q => ⟨fun p hp => hl k p hk hp, q⟩⟩
    constructor
    · rintro ⟨q1, q2⟩
      exact ⟨hdig.mp (hpre.mpr (hiv.mp q1)), (hfull _ (by omega)).mp q2⟩
    · rintro ⟨q1, q2⟩
      have q3 := hiv.mpr (hpre.mp (hdig.mpr q1))
      exact ⟨q3, (hfull _ (by omega)).mpr q2⟩
  rw [← h2, ← h1, h3]
theorem left_count (hn : 2 ≤ n) (hm : 0 < m) (hc : ∀ k p, k < K → p < n → c k p < m) (hl : ∀ k p, k < K → p + 1 < n → may (c k p) (c k (p + 1))) (hd : ∀ i k, i < k → k < K → ¬ Alike c n i k) :
    cn (fun R => Full n m D w may H (dg m n R) ∧ ∀ k, k < K → ¬ nm m (c k) n = R) (m ^ n) + cn (fun k => mk (fun d => ∀ p, p < n → H d p (c k p)) D = w) K = sm (fun x => wy m n w may (fun p x => mk (fun d => H d p x) D) (n - 1) x (mk (fun d => H d 0 x) D)) m := by
  have h1 := cn_keys (P := fun R => Full n m D w may H (dg m n R)) (num := fun k => nm m (c k) n) (b := 0) (M := m ^ n) K (num_inj hc hd)
  have h2 : cn (fun R => Full n m D w may H (dg m n R)) (m ^ n) = sm (fun x => wy m n w may (fun p x => mk (fun d => H d p x) D) (n - 1) x (mk (fun d => H d 0 x) D)) m := by
    rw [show m ^ n = m * m ^ (n - 1) by rw [← Nat.pow_succ']; congr 1; omega, cn_mul]
    apply sm_c
    intro x hx
    have e := wy_cn (m := m) (n := n) (w := w) (may := may) (hold := fun p x => mk (fun d => H d p x) D) hm (n - 1) x (mk (fun d => H d 0 x) D)
    rw [← e]
    apply cn_c
    intro R' hR'
    have h3 := sfx_full (w := w) (may := may) (H := H) (D := D) hm (r := fun _ => x) (p := 0) (q := n - 1) (show 0 + (n - 1) + 1 = n by omega) (fun _ _ => hx) (fun i hi => absurd hi (by omega)) hR'
    have e2 : mk (fun d => ∀ i, i ≤ 0 → H d i x) D = mk (fun d => H d 0 x) D := mk_c (fun d _ => ⟨fun q => q 0 (Nat.le_refl 0), fun q i hi => by
      have : i = 0 := by omega
      subst this
      exact q⟩)
    rw [e2] at h3
    rw [h3]
    have e3 : nm m (fun _ => x) (0 + 1) = x := by show 0 * m + x = x; omega
    rw [e3]
  have h3 : cn (fun k => (0 ≤ nm m (c k) n ∧ nm m (c k) n < 0 + m ^ n) ∧ Full n m D w may H (dg m n (nm m (c k) n - 0))) K = cn (fun k => mk (fun d => ∀ p, p < n → H d p (c k p)) D = w) K := by
    apply cn_c
    intro k hk
    have hck : ∀ p, p < n → c k p < m := fun p hp => hc k p hk hp
    have hlt := nm_lt hck
    rw [Nat.sub_zero, full_c (fun p hp => dg_nm hm hck hp)]
    unfold Full
    exact ⟨fun q => q.2.2, fun q => ⟨⟨by omega, by omega⟩, fun p hp => hl k p hk hp, q⟩⟩
  have h4 : cn (fun R => Full n m D w may H (dg m n R) ∧ ∀ k, k < K → ¬ nm m (c k) n = 0 + R) (m ^ n) = cn (fun R => Full n m D w may H (dg m n R) ∧ ∀ k, k < K → ¬ nm m (c k) n = R) (m ^ n) := by
    apply cn_c
    intro R _
    rw [Nat.zero_add]
  rw [← h2, ← h1, h3, h4]
end Cnt
/-! the reference's rows -/
def E37 (p k : Nat) : Prop := p = 37
section RRows
variable {n m K D st tp : Nat} {br mu : Nat → Nat → Prop}
theorem RQ_37 {S S' : SS} (h : Fr E37 S S') (hR : RQ n m K D st tp br mu S) : RQ n m K D st tp br mu S' :=
  RQ_f (fun p k q => h.2 p k (by unfold E37; omega)) hR
theorem CU_37 {S S' : SS} {j : Nat} {c : Nat → Nat → Nat} (h : Fr E37 S S') (hR : CU n j c S) : CU n j c S' := fun k p hk hp => by
  rw [h.2 36 _ (by unfold E37; omega)]; exact hR k p hk hp
theorem mn_le (hB : BD n m K D st tp) : m ^ n ≤ 262144 := by
  obtain ⟨b1, b2, b3, b4, b5, b6, b7, b8, b9⟩ := hB
  calc m ^ n ≤ 8 ^ n := Nat.pow_le_pow_left b4 n
    _ ≤ 8 ^ 6 := Nat.pow_le_pow_right (by omega) b2
    _ = 262144 := by decide
theorem r_rows_L (hB : BD n m K D st tp) {S : SS} (hR : RQ n m K D st tp br mu S) : ∀ t N k, k + t = n → t < N → f_RM_rows_L4 N (nI (m ^ k)) (nI k) S = some (nI (m ^ n)) := by
  obtain ⟨b1, b2, b3, b4, b5, b6, b7, b8, b9⟩ := hB
  obtain ⟨r1, r2, r3, r4, r6, r7, r8, r9⟩ := hR
  intro t
  induction t with
  | zero =>
    intro N k hk hN; obtain ⟨N, rfl⟩ : ∃ M, N = M + 1 := ⟨N - 1, by omega⟩
    have : k = n := by omega
    subst this
    rw [f_RM_rows_L4_s]
    simp (disch := omega) only [q_le_t, q_le_f, q_lt_t, q_lt_f, q_eq_t, q_eq_f, q_oob, q_cl, q_mul, nI_add, z0, z1, z2, z4, z6, z7, z8, z64, z512, zT, if_b0, if_b1, if_b01, ite_true, ite_false, ↓reduceIte, Option.bind_some, Sum.elim_inl, Sum.elim_inr, r1]
  | succ t ih =>
    intro N k hk hN; obtain ⟨N, rfl⟩ : ∃ M, N = M + 1 := ⟨N - 1, by omega⟩
    have ih := ih N (k + 1) (by omega) (by omega)
    rw [f_RM_rows_L4_s]
    simp (disch := omega) only [q_le_t, q_le_f, q_lt_t, q_lt_f, q_eq_t, q_eq_f, q_oob, q_cl, q_mul, nI_add, z0, z1, z2, z4, z6, z7, z8, z64, z512, zT, if_b0, if_b1, if_b01, ite_true, ite_false, ↓reduceIte, Option.bind_some, Sum.elim_inl, Sum.elim_inr, r1, r2]
    rw [← Nat.pow_succ]
    exact ih
theorem r_rows (hB : BD n m K D st tp) {S : SS} (hR : RQ n m K D st tp br mu S) : f_RM_rows S = some (nI (m ^ n)) := by
  have h := r_rows_L hB hR n FU 0 (by omega) (by rw [FU_eq]; have := hB.2.1; omega)
  rw [Nat.pow_zero] at h
  rw [f_RM_rows_s, z0, z1, h]; rfl
theorem r_dig_L (hB : BD n m K D st tp) : ∀ p N R (S : SS), RQ n m K D st tp br mu S → p < 6 → R < 2147483648 → p + 1 < N →
    ∃ S', Fr (fun a b => a = 37 ∧ b ≤ p) S S' ∧ f_RM_isFree_L9 N (nI R) (nI p) S = some S' ∧ ∀ i, i ≤ p → S'.1 37 i = nI (R / m ^ (p - i) % m) := by
  obtain ⟨b1, b2, b3, b4, b5, b6, b7, b8, b9⟩ := hB
  intro p
  induction p with
  | zero =>
    intro N R S hR hp hR31 hN
    obtain ⟨N, rfl⟩ : ∃ M, N = M + 1 := ⟨N - 1, by omega⟩
    obtain ⟨N, rfl⟩ : ∃ M, N = M + 1 := ⟨N - 1, by omega⟩
    obtain ⟨r1, r2, r3, r4, r6, r7, r8, r9⟩ := hR
    refine ⟨wI S 37 0 (nI (R % m)), Fr_w ⟨rfl, Nat.le_refl 0⟩, ?_, fun i hi => ?_⟩
    · rw [f_RM_isFree_L9_s]
      simp (disch := omega) only [q_le_t, q_le_f, q_lt_t, q_lt_f, q_eq_t, q_eq_f, q_oob, q_cl, q_mul, nI_add, z0, z1, z2, z4, z6, z7, z8, z64, z512, zT, if_b0, if_b1, if_b01, ite_true, ite_false, ↓reduceIte, Option.bind_some, Sum.elim_inl, Sum.elim_inr, r2, pk_div, q_rem]
      rw [f_RM_isFree_L9_s, if_pos (by decide +kernel)]
    · have : i = 0 := by omega
      subst this
      rw [w_s, Nat.sub_self, Nat.pow_zero, Nat.div_one]
  | succ p ih =>
    intro N R S hR hp hR31 hN
    obtain ⟨N, rfl⟩ : ∃ M, N = M + 1 := ⟨N - 1, by omega⟩
    have r2 := hR.2.1
    have hF : Fr (fun a b => a = 37 ∧ b ≤ p + 1) S (wI S 37 (p + 1) (nI (R % m))) := Fr_w ⟨rfl, Nat.le_refl _⟩
    have hd : R / m ≤ R := Nat.div_le_self R m
    obtain ⟨S', j1, j2, j3⟩ := ih N (R / m) (wI S 37 (p + 1) (nI (R % m))) (RQ_f (fun a k q => w_n (by omega)) hR) (by omega) (by omega) (by omega)
    refine ⟨S', ⟨j1.1.trans hF.1, fun a b q => (j1.2 a b (fun h => q ⟨h.1, by omega⟩)).trans (hF.2 a b q)⟩, ?_, fun i hi => ?_⟩
    · rw [f_RM_isFree_L9_s]
      simp (disch := omega) only [q_le_t, q_le_f, q_lt_t, q_lt_f, q_eq_t, q_eq_f, q_oob, q_cl, q_mul, nI_add, z0, z1, z2, z4, z6, z7, z8, z64, z512, zT, if_b0, if_b1, if_b01, ite_true, ite_false, ↓reduceIte, Option.bind_some, Sum.elim_inl, Sum.elim_inr, r2, pk_div, q_rem]
      rw [q_dec]
      exact j2
    · rcases Nat.lt_or_ge p i with h | h
      · have : i = p + 1 := by omega
        subst this
        rw [j1.2 37 (p + 1) (by omega), w_s, Nat.sub_self, Nat.pow_zero, Nat.div_one]
      · rw [j3 i h, Nat.div_div_eq_div_mul, show p + 1 - i = (p - i) + 1 by omega, Nat.pow_succ, Nat.mul_comm]
theorem r_law_L (hB : BD n m K D st tp) {S : SS} (hR : RQ n m K D st tp br mu S) {r : Nat → Nat} (hr : ∀ p, p < n → S.1 37 p = nI (r p) ∧ r p < 8) : ∀ t N k, 1 ≤ k → k + t = n → t < N → f_RM_isFree_L43 N (bI (∀ p, p + 1 < k → May st br (r p) (r (p + 1)))) (nI k) S = some (bI (∀ p, p + 1 < n → May st br (r p) (r (p + 1)))) := by
  have hB' := hB
  have hR' := hR
  obtain ⟨b1, b2, b3, b4, b5, b6, b7, b8, b9⟩ := hB
  obtain ⟨r1, r2, r3, r4, r6, r7, r8, r9⟩ := hR
  intro t
  induction t with
  | zero =>
    intro N k hk1 hk hN; obtain ⟨N, rfl⟩ : ∃ M, N = M + 1 := ⟨N - 1, by omega⟩
    have : k = n := by omega
    subst this
    rw [f_RM_isFree_L43_s]
    simp (disch := omega) only [q_le_t, q_le_f, q_lt_t, q_lt_f, q_eq_t, q_eq_f, q_oob, q_cl, q_mul, nI_add, z0, z1, z2, z4, z6, z7, z8, z64, z512, zT, if_b0, if_b1, if_b01, ite_true, ite_false, ↓reduceIte, Option.bind_some, Sum.elim_inl, Sum.elim_inr, r1]
  | succ t ih =>
    intro N k hk1 hk hN; obtain ⟨N, rfl⟩ : ∃ M, N = M + 1 := ⟨N - 1, by omega⟩
    obtain ⟨e1, f1⟩ := hr (k - 1) (by omega)
    obtain ⟨e2, f2⟩ := hr k (by omega)
    have e3 := r_may hB' hR' f1 f2
    have ih := ih N (k + 1) (by omega) (by omega) (by omega)
    rw [f_RM_isFree_L43_s]
    simp (disch := omega) only [q_le_t, q_le_f, q_lt_t, q_lt_f, q_eq_t, q_eq_f, q_oob, q_cl, q_mul, nI_add, z0, z1, z2, z4, z6, z7, z8, z64, z512, zT, if_b0, if_b1, if_b01, ite_true, ite_false, ↓reduceIte, Option.bind_some, Sum.elim_inl, Sum.elim_inr, r1, q_sub, e1, e2, e3]
    rcases Classical.em (∀ p, p + 1 < k → May st br (r p) (r (p + 1))) with h | h
    · rw [cif_t h]
      rcases Classical.em (May st br (r (k - 1)) (r k)) with g | g
      · rw [cif_t g, ← ih, bI_t (show ∀ p, p + 1 < k + 1 → May st br (r p) (r (p + 1)) from fun p hp => by
          rcases Nat.lt_or_ge (p + 1) k with q | q
          · exact h p q
          · have : p = k - 1 := by omega
            subst this
            rw [show k - 1 + 1 = k by omega]; exact g)]
      · rw [cif_f g, ← ih, bI_f (fun q : ∀ p, p + 1 < k + 1 → May st br (r p) (r (p + 1)) => g (by
          have := q (k - 1) (by omega)
          rw [show k - 1 + 1 = k by omega] at this
          exact this))]
    · rw [cif_f h, ← ih, bI_f (fun q : ∀ p, p + 1 < k + 1 → May st br (r p) (r (p + 1)) => h (fun p hp => q p (by omega)))]
theorem r_same_L (hB : BD n m K D st tp) {S : SS} (hR : RQ n m K D st tp br mu S) {c : Nat → Nat → Nat} (hc : CU n K c S) {r : Nat → Nat} (hr : ∀ p, p < n → S.1 37 p = nI (r p) ∧ r p < 8) {i : Nat} (hi : i < K) : ∀ t N k, k + t = n → t < N → f_RM_isFree_L113 (nI i) N (bI (∀ p, p < k → c i p = r p)) (nI k) S = some (bI (∀ p, p < n → c i p = r p)) := by
  obtain ⟨b1, b2, b3, b4, b5, b6, b7, b8, b9⟩ := hB
  obtain ⟨r1, r2, r3, r4, r6, r7, r8, r9⟩ := hR
  intro t
  induction t with
  | zero =>
    intro N k hk hN; obtain ⟨N, rfl⟩ : ∃ M, N = M + 1 := ⟨N - 1, by omega⟩
    have : k = n := by omega
    subst this
    rw [f_RM_isFree_L113_s]
    simp (disch := omega) only [q_le_t, q_le_f, q_lt_t, q_lt_f, q_eq_t, q_eq_f, q_oob, q_cl, q_mul, nI_add, z0, z1, z2, z4, z6, z7, z8, z64, z512, zT, if_b0, if_b1, if_b01, ite_true, ite_false, ↓reduceIte, Option.bind_some, Sum.elim_inl, Sum.elim_inr, r1]
  | succ t ih =>
    intro N k hk hN; obtain ⟨N, rfl⟩ : ∃ M, N = M + 1 := ⟨N - 1, by omega⟩
    obtain ⟨e1, f1⟩ := hc i k hi (by omega)
    obtain ⟨e2, f2⟩ := hr k (by omega)
    have g1 := nk_lt b2 (show i < 8 by omega) (show k < n by omega)
    have ih := ih N (k + 1) (by omega) (by omega)
    rw [f_RM_isFree_L113_s]
    simp (disch := omega) only [q_le_t, q_le_f, q_lt_t, q_lt_f, q_eq_t, q_eq_f, q_oob, q_cl, q_mul, nI_add, z0, z1, z2, z4, z6, z7, z8, z64, z512, zT, if_b0, if_b1, if_b01, ite_true, ite_false, ↓reduceIte, Option.bind_some, Sum.elim_inl, Sum.elim_inr, r1, e1, e2]
    rcases Classical.em (∀ p, p < k → c i p = r p) with h | h
    · rw [cif_t h]
      by_cases e : c i k = r k
      · rw [if_pos (by rw [e]), ← ih, bI_t (show ∀ p, p < k + 1 → c i p = r p from all_s.mpr ⟨h, e⟩)]
      · rw [if_neg (fun q => e ((nI_eq (by omega) (by omega)).mp q)), ← ih, bI_f (fun q : ∀ p, p < k + 1 → c i p = r p => e (q k (by omega)))]
    · rw [cif_f h, ← ih, bI_f (fun q : ∀ p, p < k + 1 → c i p = r p => h (fun p hp => q p (by omega)))]
theorem r_new_L (hB : BD n m K D st tp) {S : SS} (hR : RQ n m K D st tp br mu S) {c : Nat → Nat → Nat} (hc : CU n K c S) {r : Nat → Nat} (hr : ∀ p, p < n → S.1 37 p = nI (r p) ∧ r p < 8) {A : Prop} : ∀ t N k, k + t = K → t < N → f_RM_isFree_L94 N (bI (A ∧ ∀ i, i < k → ¬ ∀ p, p < n → c i p = r p)) (nI k) S = some (bI (A ∧ ∀ i, i < K → ¬ ∀ p, p < n → c i p = r p)) := by
  have hB' := hB
  have hR' := hR
  obtain ⟨b1, b2, b3, b4, b5, b6, b7, b8, b9⟩ := hB
  obtain ⟨r1, r2, r3, r4, r6, r7, r8, r9⟩ := hR
  intro t
  induction t with
  | zero =>
    intro N k hk hN; obtain ⟨N, rfl⟩ : ∃ M, N = M + 1 := ⟨N - 1, by omega⟩
    have : k = K := by omega
    subst this
    rw [f_RM_isFree_L94_s]
    simp (disch := omega) only [q_le_t, q_le_f, q_lt_t, q_lt_f, q_eq_t, q_eq_f, q_oob, q_cl, q_mul, nI_add, z0, z1, z2, z4, z6, z7, z8, z64, z512, zT, if_b0, if_b1, if_b01, ite_true, ite_false, ↓reduceIte, Option.bind_some, Sum.elim_inl, Sum.elim_inr, r3]
  | succ t ih =>
    intro N k hk hN; obtain ⟨N, rfl⟩ : ∃ M, N = M + 1 := ⟨N - 1, by omega⟩
    have e := r_same_L hB' hR' hc hr (show k < K by omega) n FU 0 (by omega) (by rw [FU_eq]; omega)
    rw [bI_t (fun p hp => absurd hp (by omega))] at e
    have ih := ih N (k + 1) (by omega) (by omega)
    rw [f_RM_isFree_L94_s]
    simp (disch := omega) only [q_le_t, q_le_f, q_lt_t, q_lt_f, q_eq_t, q_eq_f, q_oob, q_cl, q_mul, nI_add, z0, z1, z2, z4, z6, z7, z8, z64, z512, zT, if_b0, if_b1, if_b01, ite_true, ite_false, ↓reduceIte, Option.bind_some, Sum.elim_inl, Sum.elim_inr, r3, e]
    rcases Classical.em (A ∧ ∀ i, i < k → ¬ ∀ p, p < n → c i p = r p) with h | h
    · rw [cif_t h]
      rcases Classical.em (∀ p, p < n → c k p = r p) with g | g
      · rw [cif_t g, ← ih, bI_f (fun q : A ∧ ∀ i, i < k + 1 → ¬ ∀ p, p < n → c i p = r p => q.2 k (by omega) g)]
      · rw [cif_f g, ← ih, bI_t (show A ∧ ∀ i, i < k + 1 → ¬ ∀ p, p < n → c i p = r p from ⟨h.1, all_s.mpr ⟨h.2, g⟩⟩)]
    · rw [cif_f h, bI_f h, bI_f (fun q : A ∧ ∀ i, i < K → ¬ ∀ p, p < n → c i p = r p => h ⟨q.1, fun i hi => q.2 i (by omega)⟩)]
theorem r_free (hB : BD n m K D st tp) {S : SS} (hR : RQ n m K D st tp br mu S) {c : Nat → Nat → Nat} (hc : CU n K c S) {R : Nat} (hR31 : R < 2147483648) :
    ∃ S', Fr E37 S S' ∧ (∀ p, p < n → S'.1 37 p = nI (dg m n R p) ∧ dg m n R p < 8) ∧ f_RM_isFree (nI R) S = some (bI ((∀ p, p + 1 < n → May st br (dg m n R p) (dg m n R (p + 1))) ∧ ∀ i, i < K → ¬ ∀ p, p < n → c i p = dg m n R p), S') := by
  have hB' := hB
  obtain ⟨b1, b2, b3, b4, b5, b6, b7, b8, b9⟩ := hB
  have r1 := hR.1
  obtain ⟨S', j1, j2, j3⟩ := r_dig_L (br := br) (mu := mu) hB' (n - 1) FU R S hR (by omega) hR31 (by rw [FU_eq]; omega)
  have hF : Fr E37 S S' := ⟨j1.1, fun a b q => j1.2 a b (fun h => q h.1)⟩
  have hr : ∀ p, p < n → S'.1 37 p = nI (dg m n R p) ∧ dg m n R p < 8 := fun p hp => by
    have : dg m n R p < m := dg_lt (by omega)
    exact ⟨j3 p (by omega), by omega⟩
  have e1 := r_law_L hB' (RQ_37 hF hR) hr (n - 1) FU 1 (Nat.le_refl 1) (by omega) (by rw [FU_eq]; omega)
  rw [bI_t (fun p hp => absurd hp (by omega))] at e1
  have e2 := r_new_L hB' (RQ_37 hF hR) (CU_37 hF hc) hr (A := ∀ p, p + 1 < n → May st br (dg m n R p) (dg m n R (p + 1))) K FU 0 (by omega) (by rw [FU_eq]; omega)
  rw [bI_c (show ((∀ p, p + 1 < n → May st br (dg m n R p) (dg m n R (p + 1))) ∧ ∀ i, i < 0 → ¬ ∀ p, p < n → c i p = dg m n R p) ↔ ∀ p, p + 1 < n → May st br (dg m n R p) (dg m n R (p + 1)) from ⟨fun q => q.1, fun q => ⟨q, fun i hi => absurd hi (by omega)⟩⟩)] at e2
  refine ⟨S', hF, hr, ?_⟩
  rw [f_RM_isFree_s]
  simp (disch := omega) only [q_le_t, q_le_f, q_lt_t, q_lt_f, q_eq_t, q_eq_f, q_oob, q_cl, q_mul, nI_add, z0, z1, z2, z4, z6, z7, z8, z64, z512, zT, if_b0, if_b1, if_b01, ite_true, ite_false, ↓reduceIte, Option.bind_some, Sum.elim_inl, Sum.elim_inr, r1, q_sub, j2, e1, e2]
theorem r_dor17_L (hB : BD n m K D st tp) {S : SS} (hR : RQ n m K D st tp br mu S) {c : Nat → Nat → Nat} (hc : CU n K c S) {r : Nat → Nat} (hr : ∀ p, p < n → S.1 37 p = nI (r p) ∧ r p < 8) {d : Nat} (hd : d < 6) (x : Int32) : ∀ t N k, k + t = n → t < N → f_RM_doorsOfRow_L17 x (nI d) N (bI (∀ p, p < k → Held mu c K d p (r p))) (nI k) S = some (bI (FitR mu c n K r d)) := by
  have hB' := hB
  have hR' := hR
  obtain ⟨b1, b2, b3, b4, b5, b6, b7, b8, b9⟩ := hB
  obtain ⟨r1, r2, r3, r4, r6, r7, r8, r9⟩ := hR
  intro t
  induction t with
  | zero =>
    intro N k hk hN; obtain ⟨N, rfl⟩ : ∃ M, N = M + 1 := ⟨N - 1, by omega⟩
    have : k = n := by omega
    subst this
    rw [f_RM_doorsOfRow_L17_s]
    simp (disch := omega) only [q_le_t, q_le_f, q_lt_t, q_lt_f, q_eq_t, q_eq_f, q_oob, q_cl, q_mul, nI_add, z0, z1, z2, z4, z6, z7, z8, z64, z512, zT, if_b0, if_b1, if_b01, ite_true, ite_false, ↓reduceIte, Option.bind_some, Sum.elim_inl, Sum.elim_inr, r1]
    rfl
  | succ t ih =>
    intro N k hk hN; obtain ⟨N, rfl⟩ : ∃ M, N = M + 1 := ⟨N - 1, by omega⟩
    obtain ⟨e2, f2⟩ := hr k (by omega)
    have e := r_held hB' hR' hd (show k < n by omega) f2 b5 hc
    have ih := ih N (k + 1) (by omega) (by omega)
    rw [f_RM_doorsOfRow_L17_s]
    simp (disch := omega) only [q_le_t, q_le_f, q_lt_t, q_lt_f, q_eq_t, q_eq_f, q_oob, q_cl, q_mul, nI_add, z0, z1, z2, z4, z6, z7, z8, z64, z512, zT, if_b0, if_b1, if_b01, ite_true, ite_false, ↓reduceIte, Option.bind_some, Sum.elim_inl, Sum.elim_inr, r1, r3, e2, e]
    rcases Classical.em (∀ p, p < k → Held mu c K d p (r p)) with h | h
    · rw [cif_t h, ← ih, bI_c (show Held mu c K d k (r k) ↔ ∀ p, p < k + 1 → Held mu c K d p (r p) from ⟨fun q => all_s.mpr ⟨h, q⟩, fun q => q k (by omega)⟩)]
    · rw [cif_f h, bI_f h, bI_f (fun q : FitR mu c n K r d => h (fun p hp => q p (by omega)))]
theorem r_dor_L (hB : BD n m K D st tp) {S : SS} (hR : RQ n m K D st tp br mu S) {c : Nat → Nat → Nat} (hc : CU n K c S) {r : Nat → Nat} (hr : ∀ p, p < n → S.1 37 p = nI (r p) ∧ r p < 8) : ∀ t N k, k + t = D → t < N → f_RM_doorsOfRow_L4 N (nI (mk (FitR mu c n K r) k)) (nI k) S = some (nI (mk (FitR mu c n K r) D)) := by
  have hB' := hB
  have hR' := hR
  obtain ⟨b1, b2, b3, b4, b5, b6, b7, b8, b9⟩ := hB
  obtain ⟨r1, r2, r3, r4, r6, r7, r8, r9⟩ := hR
  intro t
  induction t with
  | zero =>
    intro N k hk hN; obtain ⟨N, rfl⟩ : ∃ M, N = M + 1 := ⟨N - 1, by omega⟩
    have : k = D := by omega
    subst this
    rw [f_RM_doorsOfRow_L4_s]
    simp (disch := omega) only [q_le_t, q_le_f, q_lt_t, q_lt_f, q_eq_t, q_eq_f, q_oob, q_cl, q_mul, nI_add, z0, z1, z2, z4, z6, z7, z8, z64, z512, zT, if_b0, if_b1, if_b01, ite_true, ite_false, ↓reduceIte, Option.bind_some, Sum.elim_inl, Sum.elim_inr, r4]
  | succ t ih =>
    intro N k hk hN; obtain ⟨N, rfl⟩ : ∃ M, N = M + 1 := ⟨N - 1, by omega⟩
    have e := r_dor17_L hB' hR' hc hr (show k < 6 by omega) (nI (mk (FitR mu c n K r) k)) n FU 0 (by omega) (by rw [FU_eq]; omega)
    rw [bI_t (fun p hp => absurd hp (by omega))] at e
    have ih := ih N (k + 1) (by omega) (by omega)
    rw [f_RM_doorsOfRow_L4_s]
    simp (disch := omega) only [q_le_t, q_le_f, q_lt_t, q_lt_f, q_eq_t, q_eq_f, q_oob, q_cl, q_mul, nI_add, z0, z1, z2, z4, z6, z7, z8, z64, z512, zT, if_b0, if_b1, if_b01, ite_true, ite_false, ↓reduceIte, Option.bind_some, Sum.elim_inl, Sum.elim_inr, r4, e]
    rcases Classical.em (FitR mu c n K r k) with h | h
    · rw [cif_t h, ← ih, ← i_push (by omega) h]
    · rw [cif_f h, nx_or, Nat.or_zero, ← ih, i_skip h]
theorem r_dor (hB : BD n m K D st tp) {S : SS} (hR : RQ n m K D st tp br mu S) {c : Nat → Nat → Nat} (hc : CU n K c S) {r : Nat → Nat} (hr : ∀ p, p < n → S.1 37 p = nI (r p) ∧ r p < 8) : f_RM_doorsOfRow S = some (nI (mk (FitR mu c n K r) D)) := by
  have h := r_dor_L hB hR hc hr D FU 0 (by omega) (by rw [FU_eq]; have := hB; unfold BD at this; omega)
  rw [show mk (FitR mu c n K r) 0 = 0 from rfl] at h
  rw [f_RM_doorsOfRow_s, z0, h]; rfl
end RRows
