/-! the search of the class -/
def FrA (j : Nat) (S S' : SS) : Prop := S'.1 = S.1 ∧ ∀ p k, ¬ (p = 18 + (j + 1) ∨ (p = 7 ∧ k = j)) → S'.2 p k = S.2 p k
def FrB (j : Nat) (S S' : SS) : Prop := S'.1 = S.1 ∧ ∀ p k, p ≠ 18 + (j + 1) → S'.2 p k = S.2 p k
theorem FrB_A {j : Nat} {S S' : SS} (h : FrB j S S') : FrA j S S' := ⟨h.1, fun p k q => h.2 p k (fun e => q (Or.inl e))⟩
theorem CQ_f {n m K D st tp : Nat} {br mu : Nat → Nat → Prop} {S S' : SS} (h : ∀ p k, (p = 1 ∨ p = 2 ∨ p = 5) → S'.1 p k = S.1 p k) (h2 : S'.2 1 4 = S.2 1 4) (hR : CQ n m K D st tp br mu S) : CQ n m K D st tp br mu S' := by
  obtain ⟨r1, r2, r3, r4, r5, r6, r7, r8⟩ := hR
  refine ⟨?_, ?_, ?_, ?_, ?_, ?_, ?_, fun k hk => ?_⟩
  · rw [h _ _ (by omega), r1]
  · rw [h _ _ (by omega), r2]
  · rw [h _ _ (by omega), r3]
  · rw [h _ _ (by omega), r4]
  · rw [h _ _ (by omega), r5]
  · rw [h _ _ (by omega), r6]
  · rw [h2, r7]
  · rw [h _ _ (by omega), r8 k hk]
theorem CQ_a {n m K D st tp : Nat} {br mu : Nat → Nat → Prop} {S S' : SS} {j : Nat} (h : FrA j S S') (hR : CQ n m K D st tp br mu S) : CQ n m K D st tp br mu S' :=
  CQ_f (fun p k _ => by rw [h.1]) (h.2 1 4 (by omega)) hR
theorem held_c {mu : Nat → Nat → Prop} {c c' : Nat → Nat → Nat} {j d p x : Nat} (h : ∀ k, k < j → c k p = c' k p) : Held mu c j d p x ↔ Held mu c' j d p x := by
  constructor
  · rintro ⟨k, h1, h2, h3⟩; exact ⟨k, h1, h2, by rw [← h k h1]; exact h3⟩
  · rintro ⟨k, h1, h2, h3⟩; exact ⟨k, h1, h2, by rw [h k h1]; exact h3⟩
theorem fit_c {mu : Nat → Nat → Prop} {c c' : Nat → Nat → Nat} {r r' : Nat → Nat} {n j d : Nat} (h : ∀ k p, k < j → p < n → c k p = c' k p) (hr : ∀ p, p < n → r p = r' p) : FitR mu c n j r d ↔ FitR mu c' n j r' d := by
  unfold FitR
  constructor
  · intro q p hp; rw [← hr p hp]; exact (held_c (fun k hk => h k p hk hp)).mp (q p hp)
  · intro q p hp; rw [hr p hp]; exact (held_c (fun k hk => h k p hk hp)).mpr (q p hp)
theorem gd_c {n m tp : Nat} {mu : Nat → Nat → Prop} {c c' : Nat → Nat → Nat} {j d : Nat} (h : ∀ k p, k < j → p < n → c k p = c' k p) (g : GoodD n m tp mu c j d) : GoodD n m tp mu c' j d := by
  refine ⟨fun p hp => ?_, fun k hk hm hf => g.2 k hk hm ((fit_c h (fun p hp => h k p hk hp)).mpr hf)⟩
  rw [← cn_c (fun i _ => held_c (fun k hk => h k p hk hp))]
  exact g.1 p hp
theorem hb_c {n j d : Nat} {mu : Nat → Nat → Prop} {c c' : Nat → Nat → Nat} (h : ∀ k p, k < j → p < n → c k p = c' k p) (i : Nat) : hb n mu c j d i ↔ hb n mu c' j d i := by
  unfold hb
  constructor
  · rintro ⟨h1, h2⟩; exact ⟨h1, (held_c (fun k hk => h k _ hk h1)).mp h2⟩
  · rintro ⟨h1, h2⟩; exact ⟨h1, (held_c (fun k hk => h k _ hk h1)).mpr h2⟩
theorem hb_cn {n m j d p : Nat} {mu : Nat → Nat → Prop} {c : Nat → Nat → Nat} (hm : m ≤ 8) (hp : p < n) (hc : ∀ k, k < j → c k p < m) : cn (fun x => hb n mu c j d (8 * p + x)) 8 = cn (Held mu c j d p) m := by
  rw [← cn_short 8 hm (fun i hi q => by obtain ⟨k, h1, _, h3⟩ := q; have := hc k h1; omega)]
  apply cn_c
  intro i hi
  unfold hb
  rw [show (8 * p + i) / 8 = p by omega, show (8 * p + i) % 8 = i by omega]
  exact ⟨fun q => q.2, fun q => ⟨hp, q⟩⟩
section ClsRun
variable {n m K D st tp : Nat} {br mu : Nat → Nat → Prop}
theorem c_da (hB : BD n m K D st tp) {S : SS} (hR : CQ n m K D st tp br mu S) {c : Nat → Nat → Nat} {j d : Nat} (hj : j < 8) (hd : d < D) (hc : ∀ k p, k ≤ j → p < n → c k p < m) (hw : ∀ k, k ≤ j → S.2 7 k = lN (mk (rb n (c k)) 48)) (hh : S.2 (18 + j) d = lN (mk (hb n mu c j d) 48)) (hg : GoodD n m tp mu c j d) :
    f_Board_doorAccepts (nI d) (nI j) S = some (cif (GoodD n m tp mu c (j + 1) d) (nI 1, wL S (18 + (j + 1)) d (lN (mk (hb n mu c (j + 1) d) 48))) (nI 0, S)) := by
  have hB' := hB
  obtain ⟨b1, b2, b3, b4, b5, b6, b7, b8, b9⟩ := hB
  have em := c_mo hR hj (show d < 6 by omega)
  have ew := hw j (Nat.le_refl j)
  have hc8 : ∀ k, k ≤ j → ∀ p, p < n → c k p < 8 := fun k hk p hp => by have := hc k p hk hp; omega
  rw [f_Board_doorAccepts_s]
  simp (disch := omega) only [q_le_t, q_le_f, q_lt_t, q_lt_f, q_eq_t, q_eq_f, q_oob, q_cl, q_mul, nI_add, z0, z1, z2, z4, z6, z7, z8, z64, z512, zT, if_b0, if_b1, if_b01, ite_true, ite_false, ↓reduceIte, Option.bind_some, Sum.elim_inl, Sum.elim_inr, em, ew, hh]
  rcases Classical.em (mu j d) with h | h
  · rw [cif_t h]
    have eo : lN (mk (hb n mu c j d) 48) ||| lN (mk (rb n (c j)) 48) = lN (mk (hb n mu c (j + 1) d) 48) := by
      rw [l_or]
      congr 1
      apply mk_c
      intro i hi
      unfold hb rb
      rw [held_s]
      constructor
      · rintro (⟨h1, h2⟩ | ⟨h1, h2⟩)
        · exact ⟨h1, Or.inl h2⟩
        · exact ⟨h1, Or.inr ⟨h, h2⟩⟩
      · rintro ⟨h1, h2 | h2⟩
        · exact Or.inl ⟨h1, h2⟩
        · exact Or.inr ⟨h1, h2.2⟩
    have e1 := c_abv hB' hR (H := hb n mu c (j + 1) d)
    have e2 := c_str hB' hR (H := hb n mu c (j + 1) d) (c := c) (j := j) (d := d) (by omega) (by omega) (fun k hk => hw k (by omega))
    have q1 : (∀ p, p < n → cn (fun x => hb n mu c (j + 1) d (8 * p + x)) 8 ≤ tp) ↔ ∀ p, p < n → cn (Held mu c (j + 1) d p) m ≤ tp := by
      constructor
      · intro q p hp; rw [← hb_cn b4 hp (fun k hk => hc k p (by omega) hp)]; exact q p hp
      · intro q p hp; rw [hb_cn b4 hp (fun k hk => hc k p (by omega) hp)]; exact q p hp
    have q2 : (∀ i, i < j → ¬ mu i d → ¬ ∀ q, q < 48 → rb n (c i) q → hb n mu c (j + 1) d q) ↔ ∀ k, k < j + 1 → ¬ mu k d → ¬ FitR mu c n (j + 1) (c k) d := by
      rw [all_s]
      constructor
      · intro q
        exact ⟨fun k hk hm hf => q k hk hm ((hb_fit b2 (hc8 k (by omega))).mpr hf), fun hm => absurd h hm⟩
      · rintro ⟨q, _⟩ k hk hm hf
        exact q k hk hm ((hb_fit b2 (hc8 k (by omega))).mp hf)
    rw [eo]
    simp (disch := omega) only [q_le_t, q_le_f, q_lt_t, q_lt_f, q_eq_t, q_eq_f, q_oob, q_cl, q_mul, nI_add, z0, z1, z2, z4, z6, z7, z8, z64, z512, zT, if_b0, if_b1, if_b01, ite_true, ite_false, ↓reduceIte, Option.bind_some, Sum.elim_inl, Sum.elim_inr, e1, e2]
    rcases Classical.em (∀ p, p < n → cn (Held mu c (j + 1) d p) m ≤ tp) with g1 | g1
    · rw [cif_f (not_not_intro (q1.mpr g1))]
      rcases Classical.em (∀ k, k < j + 1 → ¬ mu k d → ¬ FitR mu c n (j + 1) (c k) d) with g2 | g2
      · rw [cif_f (not_not_intro (q2.mpr g2)), cif_t (show GoodD n m tp mu c (j + 1) d from ⟨g1, g2⟩)]
      · rw [cif_t (fun q => g2 (q2.mp q)), cif_f (fun q : GoodD n m tp mu c (j + 1) d => g2 q.2)]
    · rw [cif_t (fun q => g1 (q1.mp q)), cif_f (fun q : GoodD n m tp mu c (j + 1) d => g1 q.1)]
  · rw [cif_f h]
    have hs : ∀ p x, Held mu c (j + 1) d p x ↔ Held mu c j d p x := fun p x => by
      rw [held_s]; exact ⟨fun q => q.elim id (fun q => absurd q.1 h), Or.inl⟩
    have eo : mk (hb n mu c j d) 48 = mk (hb n mu c (j + 1) d) 48 := mk_c (fun i hi => by unfold hb; rw [hs])
    rw [l_in (by omega)]
    simp (disch := omega) only [q_le_t, q_le_f, q_lt_t, q_lt_f, q_eq_t, q_eq_f, q_oob, q_cl, q_mul, nI_add, z0, z1, z2, z4, z6, z7, z8, z64, z512, zT, if_b0, if_b1, if_b01, ite_true, ite_false, ↓reduceIte, Option.bind_some, Sum.elim_inl, Sum.elim_inr]
    have hfit : ∀ r, FitR mu c n (j + 1) r d ↔ FitR mu c n j r d := fun r =>
      ⟨fun q p hp => (hs _ _).mp (q p hp), fun q p hp => (hs _ _).mpr (q p hp)⟩
    rcases Classical.em (FitR mu c n j (c j) d) with g | g
    · rw [cif_t ((hb_fit b2 (hc8 j (Nat.le_refl j))).mpr g), cif_f (fun q : GoodD n m tp mu c (j + 1) d => q.2 j (by omega) h ((hfit _).mpr g))]
    · rw [cif_f (fun q => g ((hb_fit b2 (hc8 j (Nat.le_refl j))).mp q)), cif_t, eo]
      refine ⟨fun p hp => ?_, fun k hk hm hf => ?_⟩
      · rw [cn_c (fun i _ => hs p i)]; exact hg.1 p hp
      · rcases Nat.lt_or_ge k j with h1 | h1
        · exact hg.2 k h1 hm ((hfit _).mp hf)
        · have : k = j := by omega
          subst this
          exact g ((hfit _).mp hf)
theorem c_acc_L (hB : BD n m K D st tp) {c : Nat → Nat → Nat} {j : Nat} (hj : j < 8) (hc : ∀ k p, k ≤ j → p < n → c k p < m) (hg : ∀ d, d < D → GoodD n m tp mu c j d) : ∀ t N k (S : SS), k + t = D → t < N → CQ n m K D st tp br mu S → (∀ k, k ≤ j → S.2 7 k = lN (mk (rb n (c k)) 48)) → (∀ d, d < D → S.2 (18 + j) d = lN (mk (hb n mu c j d) 48)) →
    (∀ d, d < k → S.2 (18 + (j + 1)) d = lN (mk (hb n mu c (j + 1) d) 48)) → (∀ d, d < k → GoodD n m tp mu c (j + 1) d) →
    ∃ S', FrB j S S' ∧ ((∀ d, d < D → GoodD n m tp mu c (j + 1) d) ∧ f_Board_accepts_L27 (nI j) N (nI k) S = some (.inr S') ∧ (∀ d, d < D → S'.2 (18 + (j + 1)) d = lN (mk (hb n mu c (j + 1) d) 48)) ∨
      (¬ ∀ d, d < D → GoodD n m tp mu c (j + 1) d) ∧ f_Board_accepts_L27 (nI j) N (nI k) S = some (.inl (nI 0, S'))) := by
  have hB' := hB
  obtain ⟨b1, b2, b3, b4, b5, b6, b7, b8, b9⟩ := hB
  intro t
  induction t with
  | zero =>
    intro N k S hk hN hR hw hh hd hq
    obtain ⟨N, rfl⟩ : ∃ M, N = M + 1 := ⟨N - 1, by omega⟩
    have : k = D := by omega
    subst this
    refine ⟨S, ⟨rfl, fun _ _ _ => rfl⟩, Or.inl ⟨hq, ?_, hd⟩⟩
    obtain ⟨r1, r2, r3, r4, r5, r6, r7, r8⟩ := hR
    rw [f_Board_accepts_L27_s]
    simp (disch := omega) only [q_le_t, q_le_f, q_lt_t, q_lt_f, q_eq_t, q_eq_f, q_oob, q_cl, q_mul, nI_add, z0, z1, z2, z4, z6, z7, z8, z64, z512, zT, if_b0, if_b1, if_b01, ite_true, ite_false, ↓reduceIte, Option.bind_some, Sum.elim_inl, Sum.elim_inr, r6]
  | succ t ih =>
    intro N k S hk hN hR hw hh hd hq
    obtain ⟨N, rfl⟩ : ∃ M, N = M + 1 := ⟨N - 1, by omega⟩
    have e := c_da hB' hR hj (show k < D by omega) hc hw (hh k (by omega)) (hg k (by omega))
    have r6 := hR.2.2.2.2.2.1
    rw [f_Board_accepts_L27_s]
    simp (disch := omega) only [q_le_t, q_le_f, q_lt_t, q_lt_f, q_eq_t, q_eq_f, q_oob, q_cl, q_mul, nI_add, z0, z1, z2, z4, z6, z7, z8, z64, z512, zT, if_b0, if_b1, if_b01, ite_true, ite_false, ↓reduceIte, Option.bind_some, Sum.elim_inl, Sum.elim_inr, r6, e]
    rcases Classical.em (GoodD n m tp mu c (j + 1) k) with h | h
    · rw [cif_t h]
      simp (disch := omega) only [q_le_t, q_le_f, q_lt_t, q_lt_f, q_eq_t, q_eq_f, q_oob, q_cl, q_mul, nI_add, z0, z1, z2, z4, z6, z7, z8, z64, z512, zT, if_b0, if_b1, if_b01, ite_true, ite_false, ↓reduceIte, Option.bind_some, Sum.elim_inl, Sum.elim_inr]
      have hF : FrB j S (wL S (18 + (j + 1)) k (lN (mk (hb n mu c (j + 1) k) 48))) := ⟨rfl, fun p q hp => u_n (fun hq => hp hq.1)⟩
      obtain ⟨S', g1, g2⟩ := ih N (k + 1) _ (by omega) (by omega) (CQ_a (FrB_A hF) hR) (fun i hi => by rw [u_n (by omega)]; exact hw i hi) (fun d hd => by rw [u_n (by omega)]; exact hh d hd) (fun d hd2 => by
        rcases Nat.lt_or_ge d k with h1 | h1
        · rw [u_n (by omega)]; exact hd d h1
        · have : d = k := by omega
          subst this
          rw [u_s]) (all_s.mpr ⟨hq, h⟩)
      exact ⟨S', ⟨g1.1.trans hF.1, fun p q hp => (g1.2 p q hp).trans (hF.2 p q hp)⟩, g2⟩
    · rw [cif_f h]
      refine ⟨S, ⟨rfl, fun _ _ _ => rfl⟩, Or.inr ⟨fun q => h (q k (by omega)), ?_⟩⟩
      simp (disch := omega) only [q_le_t, q_le_f, q_lt_t, q_lt_f, q_eq_t, q_eq_f, q_oob, q_cl, q_mul, nI_add, z0, z1, z2, z4, z6, z7, z8, z64, z512, zT, if_b0, if_b1, if_b01, ite_true, ite_false, ↓reduceIte, Option.bind_some, Sum.elim_inl, Sum.elim_inr]
theorem c_acc (hB : BD n m K D st tp) {S : SS} (hR : CQ n m K D st tp br mu S) {c : Nat → Nat → Nat} {j : Nat} (hj : j < 8) (hc : ∀ k p, k ≤ j → p < n → c k p < m) (hcut : ∀ p, p < n → S.1 (10 + j) p = nI (c j p)) (hw : ∀ k, k < j → S.2 7 k = lN (mk (rb n (c k)) 48)) (hh : ∀ d, d < D → S.2 (18 + j) d = lN (mk (hb n mu c j d) 48)) (hg : ∀ d, d < D → GoodD n m tp mu c j d) :
    ∃ S', FrA j S S' ∧ f_Board_accepts (nI j) S = some (bI (Good n m D tp mu c (j + 1)), S') ∧ (Good n m D tp mu c (j + 1) → S'.2 7 j = lN (mk (rb n (c j)) 48) ∧ ∀ d, d < D → S'.2 (18 + (j + 1)) d = lN (mk (hb n mu c (j + 1) d) 48)) := by
  have hB' := hB
  obtain ⟨b1, b2, b3, b4, b5, b6, b7, b8, b9⟩ := hB
  have hc8 : ∀ k p, k ≤ j → p < n → c k p < 8 := fun k p hk hp => by have := hc k p hk hp; omega
  have e1 := c_row hB' hR hj (fun p hp => ⟨hcut p hp, hc8 j p (Nat.le_refl j) hp⟩)
  have e2 := c_tak hB' (S := S) (r := c j) (c := c) (j := j) (by omega) (fun p hp => hc8 j p (Nat.le_refl j) hp) (fun k p hk hp => hc8 k p (by omega) hp) hw
  rw [f_Board_accepts_s]
  simp (disch := omega) only [q_le_t, q_le_f, q_lt_t, q_lt_f, q_eq_t, q_eq_f, q_oob, q_cl, q_mul, nI_add, z0, z1, z2, z4, z6, z7, z8, z64, z512, zT, if_b0, if_b1, if_b01, ite_true, ite_false, ↓reduceIte, Option.bind_some, Sum.elim_inl, Sum.elim_inr, e1, e2]
  rcases Classical.em (∀ i, i < j → ¬ ∀ p, p < n → c i p = c j p) with h | h
  · rw [cif_f (not_not_intro h)]
    have hF : FrA j S (wL S 7 j (lN (mk (rb n (c j)) 48))) := ⟨rfl, fun p q hp => u_n (fun hq => hp (Or.inr hq))⟩
    obtain ⟨S', g1, g2⟩ := c_acc_L (br := br) hB' hj hc hg D FU 0 (wL S 7 j (lN (mk (rb n (c j)) 48))) (by omega) (by rw [FU_eq]; omega) (CQ_a hF hR) (fun k hk => by
      rcases Nat.lt_or_ge k j with h1 | h1
      · rw [u_n (by omega)]; exact hw k h1
      · have : k = j := by omega
        subst this
        rw [u_s]) (fun d hd => by rw [u_n (by omega)]; exact hh d hd) (fun d hd => absurd hd (by omega)) (fun d hd => absurd hd (by omega))
    have g3 : FrA j S S' := ⟨g1.1.trans hF.1, fun p q hp => ((FrB_A g1).2 p q hp).trans (hF.2 p q hp)⟩
    refine ⟨S', g3, ?_⟩
    rcases g2 with ⟨g4, g5, g6⟩ | ⟨g4, g5⟩
    · have hgood : Good n m D tp mu c (j + 1) := ⟨fun k hk => h k (by omega), g4⟩
      rw [g5, bI_t hgood]
      refine ⟨rfl, fun _ => ⟨?_, g6⟩⟩
      rw [g1.2 7 j (by omega), u_s]
    · have hgood : ¬ Good n m D tp mu c (j + 1) := fun q => g4 q.2
      rw [g5, bI_f hgood]
      exact ⟨rfl, fun q => absurd q hgood⟩
  · rw [cif_t h]
    have hgood : ¬ Good n m D tp mu c (j + 1) := fun q => h (fun k hk => q.1 k (by omega))
    exact ⟨S, ⟨rfl, fun _ _ _ => rfl⟩, by rw [bI_f hgood], fun q => absurd q hgood⟩
/-- the keys before are entered -/
def SR (n m D tp : Nat) (mu : Nat → Nat → Prop) (key : Nat) (v : Nat → Nat) (S : SS) : Prop :=
  (∀ k, k < key → S.2 7 k = lN (mk (rb n (fun p => v (n * k + p))) 48)) ∧
  (∀ j d, j ≤ key → d < D → S.2 (18 + j) d = lN (mk (hb n mu (fun k p => v (n * k + p)) j d) 48)) ∧
  (∀ j d, j ≤ key → d < D → GoodD n m tp mu (fun k p => v (n * k + p)) j d)
theorem nkp {n k key p : Nat} (h : k < key) (hp : p < n) : n * k + p < n * key := by
  have h1 : n * (k + 1) ≤ n * key := Nat.mul_le_mul_left n h
  rw [Nat.mul_succ] at h1
  omega
theorem SR_c {key key' : Nat} {v v' : Nat → Nat} {S S' : SS} (hk : key' ≤ key) (hv : ∀ i, i < n * key' → v i = v' i) (h1 : ∀ k, k < key' → S'.2 7 k = S.2 7 k) (h2 : ∀ j d, j ≤ key' → S'.2 (18 + j) d = S.2 (18 + j) d) (h : SR n m D tp mu key v S) : SR n m D tp mu key' v' S' := by
  obtain ⟨a1, a2, a3⟩ := h
  have hq : ∀ k p, k < key' → p < n → v (n * k + p) = v' (n * k + p) := fun k p hk hp => hv _ (nkp hk hp)
  refine ⟨fun k hk2 => ?_, fun j d hj hd => ?_, fun j d hj hd => ?_⟩
  · rw [h1 k hk2, a1 k (by omega)]
    congr 1
    apply mk_c
    intro i hi
    unfold rb
    constructor
    · rintro ⟨q1, q2⟩; exact ⟨q1, (hq k _ hk2 q1).symm.trans q2⟩
    · rintro ⟨q1, q2⟩; exact ⟨q1, (hq k _ hk2 q1).trans q2⟩
  · rw [h2 j d hj, a2 j d (by omega) hd]
    congr 1
    exact mk_c (fun i hi => hb_c (fun k p hk hp => hq k p (by omega) hp) i)
  · exact gd_c (fun k p hk hp => hq k p (by omega) hp) (a3 j d (by omega) hd)
theorem c_std (hB : BD n m K D st tp) {S : SS} (hR : CQ n m K D st tp br mu S) {v : Nat → Nat} {key pin : Nat} (hkey : key < 8) (hpin : pin < n) (e3 : S.1 3 3 = nI key) (e4 : S.1 3 4 = nI pin) (hv : ∀ k p, p < n → n * k + p ≤ n * key + pin → S.1 (10 + k) p = nI (v (n * k + p)) ∧ v (n * k + p) < m) (hs : SR n m D tp mu key v S) :
    ∃ S', FrA key S S' ∧ f_Search_stands S = some (bI (okP n m D tp st br mu (n * key + pin) v), S') ∧ SR n m D tp mu key v S' ∧ (okP n m D tp st br mu (n * key + pin) v → pin = n - 1 → SR n m D tp mu (key + 1) v S') := by
  have hB' := hB
  obtain ⟨b1, b2, b3, b4, b5, b6, b7, b8, b9⟩ := hB
  have r1 := hR.1
  have hmod : (n * key + pin) % n = pin := by rw [Nat.mul_add_mod, Nat.mod_eq_of_lt hpin]
  have hdiv : (n * key + pin) / n = key := by rw [Nat.mul_add_div (by omega), Nat.div_eq_of_lt hpin, Nat.add_zero]
  have hF0 : FrA key S S := ⟨rfl, fun _ _ _ => rfl⟩
  have hacc : pin = n - 1 → ∃ S', FrA key S S' ∧ f_Board_accepts (nI key) S = some (bI (Good n m D tp mu (fun k p => v (n * k + p)) (key + 1)), S') ∧ SR n m D tp mu key v S' ∧ (Good n m D tp mu (fun k p => v (n * k + p)) (key + 1) → SR n m D tp mu (key + 1) v S') := by
    intro hp
    have hle : ∀ k p, k ≤ key → p < n → n * k + p ≤ n * key + pin := fun k p hk hp2 => by
      have : n * k ≤ n * key := Nat.mul_le_mul_left n hk
      omega
    obtain ⟨S', g1, g2, g3⟩ := c_acc hB' hR (c := fun k p => v (n * k + p)) hkey (fun k p hk hp => (hv k p hp (hle k p hk hp)).2) (fun p hp => (hv key p hp (hle key p (Nat.le_refl key) hp)).1) hs.1 (fun d hd => hs.2.1 key d (Nat.le_refl key) hd) (fun d hd => hs.2.2 key d (Nat.le_refl key) hd)
    have hS' : SR n m D tp mu key v S' := SR_c (Nat.le_refl key) (fun _ _ => rfl) (fun k hk => g1.2 7 k (by omega)) (fun j d hj => g1.2 (18 + j) d (by omega)) hs
    refine ⟨S', g1, g2, hS', fun hG => ⟨fun k hk => ?_, fun j d hj hd => ?_, fun j d hj hd => ?_⟩⟩
    · rcases Nat.lt_or_ge k key with h1 | h1
      · exact hS'.1 k h1
      · have : k = key := by omega
        subst this
        exact (g3 hG).1
    · rcases Nat.lt_or_ge key j with h1 | h1
      · have : j = key + 1 := by omega
        subst this
        exact (g3 hG).2 d hd
      · exact hS'.2.1 j d h1 hd
    · rcases Nat.lt_or_ge key j with h1 | h1
      · have : j = key + 1 := by omega
        subst this
        exact hG.2 d hd
      · exact hS'.2.2 j d h1 hd
  rw [f_Search_stands_s]
  by_cases h0 : pin = 0
  · subst h0
    simp (disch := omega) only [q_le_t, q_le_f, q_lt_t, q_lt_f, q_eq_t, q_eq_f, q_oob, q_cl, q_mul, nI_add, z0, z1, z2, z4, z6, z7, z8, z64, z512, zT, if_b0, if_b1, if_b01, ite_true, ite_false, ↓reduceIte, Option.bind_some, Sum.elim_inl, Sum.elim_inr, e3, e4, r1, q_sub]
    refine ⟨S, hF0, ?_, hs, fun _ q => absurd q (by omega)⟩
    rw [bI_t]
    exact ⟨Or.inl hmod, Or.inl (by rw [hmod]; omega)⟩
  · obtain ⟨e5, f5⟩ := hv key (pin - 1) (by omega) (by omega)
    obtain ⟨e6, f6⟩ := hv key pin hpin (Nat.le_refl _)
    have em := c_may hB' hR (show v (n * key + (pin - 1)) < 8 by omega) (show v (n * key + pin) < 8 by omega)
    have ep : n * key + (pin - 1) = n * key + pin - 1 := by omega
    simp (disch := omega) only [q_le_t, q_le_f, q_lt_t, q_lt_f, q_eq_t, q_eq_f, q_oob, q_cl, q_mul, nI_add, z0, z1, z2, z4, z6, z7, z8, z64, z512, zT, if_b0, if_b1, if_b01, ite_true, ite_false, ↓reduceIte, Option.bind_some, Sum.elim_inl, Sum.elim_inr, e3, e4, r1, q_sub, e5, e6, em]
    rw [ep]
    rcases Classical.em (May st br (v (n * key + pin - 1)) (v (n * key + pin))) with h | h
    · rw [cif_t h]
      by_cases h1 : pin < n - 1
      · simp (disch := omega) only [q_le_t, q_le_f, q_lt_t, q_lt_f, q_eq_t, q_eq_f, q_oob, q_cl, q_mul, nI_add, z0, z1, z2, z4, z6, z7, z8, z64, z512, zT, if_b0, if_b1, if_b01, ite_true, ite_false, ↓reduceIte, Option.bind_some, Sum.elim_inl, Sum.elim_inr]
        refine ⟨S, hF0, ?_, hs, fun _ q => absurd q (by omega)⟩
        rw [bI_t]
        exact ⟨Or.inr h, Or.inl (by rw [hmod]; omega)⟩
      · obtain ⟨S', g1, g2, g3, g4⟩ := hacc (by omega)
        simp (disch := omega) only [q_le_t, q_le_f, q_lt_t, q_lt_f, q_eq_t, q_eq_f, q_oob, q_cl, q_mul, nI_add, z0, z1, z2, z4, z6, z7, z8, z64, z512, zT, if_b0, if_b1, if_b01, ite_true, ite_false, ↓reduceIte, Option.bind_some, Sum.elim_inl, Sum.elim_inr, g2]
        refine ⟨S', g1, ?_, g3, fun q _ => ?_⟩
        · rcases Classical.em (Good n m D tp mu (fun k p => v (n * k + p)) (key + 1)) with hG | hG
          · rw [cif_t hG, bI_t]
            exact ⟨Or.inr h, Or.inr (by rw [hdiv]; exact hG)⟩
          · rw [cif_f hG, bI_f]
            rintro ⟨_, q2⟩
            rw [hmod, hdiv] at q2
            exact q2.elim h1 hG
        · have q2 := q.2
          rw [hmod, hdiv] at q2
          exact g4 (q2.elim (fun q => absurd q h1) id)
    · rw [cif_f h]
      have hno : ¬ okP n m D tp st br mu (n * key + pin) v := by
        rintro ⟨q, _⟩
        rw [hmod] at q
        exact q.elim h0 h
      exact ⟨S, hF0, by rw [bI_f hno], hs, fun q => absurd q hno⟩
def E34 (p k : Nat) : Prop := p = 3 ∧ (k = 3 ∨ k = 4)
theorem CQ_e {S S' : SS} (h : Fr E34 S S') (hR : CQ n m K D st tp br mu S) : CQ n m K D st tp br mu S' :=
  CQ_f (fun p k q => h.2 p k (by unfold E34; omega)) (by rw [h.1]) hR
theorem c_gb7 (hB : BD n m K D st tp) {v : Nat → Nat} {key : Nat} (hkey : key < 8) : ∀ pin N (S : SS), CQ n m K D st tp br mu S → pin < n → S.1 3 3 = nI key → S.1 3 4 = nI pin → (∀ p, p ≤ pin → S.1 (10 + key) p = nI (v (n * key + p)) ∧ v (n * key + p) < m) → pin + 1 < N →
    ∃ S', Fr E34 S S' ∧ S'.1 3 3 = nI key ∧ ((∃ q, q ≤ pin ∧ back m v (n * key + pin) = some (n * key + q) ∧ f_Search_goBack_L7 N S = some (.inl (nI 1, S')) ∧ S'.1 3 4 = nI q) ∨
      ((key = 0 → back m v (n * key + pin) = none) ∧ (∀ i, n * key = i + 1 → back m v (n * key + pin) = back m v i) ∧ f_Search_goBack_L7 N S = some (.inr S'))) := by
  have hB' := hB
  obtain ⟨b1, b2, b3, b4, b5, b6, b7, b8, b9⟩ := hB
  intro pin
  induction pin with
  | zero =>
    intro N S hR hp e3 e4 hv hN
    obtain ⟨N, rfl⟩ : ∃ M, N = M + 1 := ⟨N - 1, by omega⟩
    obtain ⟨e, hm⟩ := hv 0 (Nat.le_refl 0)
    have r2 := hR.2.1
    by_cases h : v (n * key + 0) + 1 < m
    · refine ⟨S, Fr_rfl, e3, Or.inl ⟨0, Nat.le_refl 0, ?_, ?_, e4⟩⟩
      · cases hk : n * key + 0 with
        | zero => rw [hk] at h; unfold back; rw [if_pos h]
        | succ i => rw [hk] at h; unfold back; rw [if_pos h]
      · rw [f_Search_goBack_L7_s]
        simp (disch := omega) only [q_le_t, q_le_f, q_lt_t, q_lt_f, q_eq_t, q_eq_f, q_oob, q_cl, q_mul, nI_add, z0, z1, z2, z4, z6, z7, z8, z64, z512, zT, if_b0, if_b1, if_b01, ite_true, ite_false, ↓reduceIte, Option.bind_some, Sum.elim_inl, Sum.elim_inr, e3, e4, e, r2, q_sub]
    · refine ⟨wI S 3 4 (nI 0 - nI 1), Fr_w ⟨rfl, Or.inr rfl⟩, by rw [w_n (by omega)]; exact e3, Or.inr ⟨?_, ?_, ?_⟩⟩
      · intro hk
        subst hk
        rw [Nat.mul_zero] at h ⊢
        unfold back
        rw [if_neg h]
      · intro i hi
        rw [Nat.add_zero, hi] at h ⊢
        conv => lhs; unfold back
        rw [if_neg h]
      · obtain ⟨N, rfl⟩ : ∃ M, N = M + 1 := ⟨N - 1, by omega⟩
        rw [f_Search_goBack_L7_s]
        simp (disch := omega) only [q_le_t, q_le_f, q_lt_t, q_lt_f, q_eq_t, q_eq_f, q_oob, q_cl, q_mul, nI_add, z0, z1, z2, z4, z6, z7, z8, z64, z512, zT, if_b0, if_b1, if_b01, ite_true, ite_false, ↓reduceIte, Option.bind_some, Sum.elim_inl, Sum.elim_inr, e3, e4, e, r2, q_sub]
        rw [f_Search_goBack_L7_s, w_s, if_pos (by decide +kernel)]
  | succ pin ih =>
    intro N S hR hp e3 e4 hv hN
    obtain ⟨N, rfl⟩ : ∃ M, N = M + 1 := ⟨N - 1, by omega⟩
    obtain ⟨e, hm⟩ := hv (pin + 1) (Nat.le_refl _)
    have r2 := hR.2.1
    by_cases h : v (n * key + (pin + 1)) + 1 < m
    · refine ⟨S, Fr_rfl, e3, Or.inl ⟨pin + 1, Nat.le_refl _, ?_, ?_, e4⟩⟩
      · rw [← Nat.add_assoc] at h ⊢; unfold back; rw [if_pos h]
      · rw [f_Search_goBack_L7_s]
        simp (disch := omega) only [q_le_t, q_le_f, q_lt_t, q_lt_f, q_eq_t, q_eq_f, q_oob, q_cl, q_mul, nI_add, z0, z1, z2, z4, z6, z7, z8, z64, z512, zT, if_b0, if_b1, if_b01, ite_true, ite_false, ↓reduceIte, Option.bind_some, Sum.elim_inl, Sum.elim_inr, e3, e4, e, r2, q_sub]
    · have hF : Fr E34 S (wI S 3 4 (nI pin)) := Fr_w ⟨rfl, Or.inr rfl⟩
      have e1 : f_Search_goBack_L7 (N + 1) S = f_Search_goBack_L7 N (wI S 3 4 (nI pin)) := by
        rw [f_Search_goBack_L7_s]
        simp (disch := omega) only [q_le_t, q_le_f, q_lt_t, q_lt_f, q_eq_t, q_eq_f, q_oob, q_cl, q_mul, nI_add, z0, z1, z2, z4, z6, z7, z8, z64, z512, zT, if_b0, if_b1, if_b01, ite_true, ite_false, ↓reduceIte, Option.bind_some, Sum.elim_inl, Sum.elim_inr, e3, e4, e, r2, q_sub]
        rw [show pin + 1 - 1 = pin by omega]
      have eb : back m v (n * key + (pin + 1)) = back m v (n * key + pin) := by
        rw [← Nat.add_assoc] at h ⊢
        conv => lhs; unfold back
        rw [if_neg h]
      obtain ⟨S', g1, g2, g3⟩ := ih N _ (CQ_e hF hR) (by omega) (by rw [w_n (by omega)]; exact e3) w_s (fun p hp => by rw [w_n (by omega)]; exact hv p (by omega)) (by omega)
      rw [e1, eb]
      refine ⟨S', Fr_tr hF g1, g2, ?_⟩
      rcases g3 with ⟨q, h1, h2, h3⟩ | h1
      · exact Or.inl ⟨q, by omega, h2, h3⟩
      · exact Or.inr h1
theorem c_gb0 (hB : BD n m K D st tp) {v : Nat → Nat} : ∀ key pin N (S : SS), key < 8 → CQ n m K D st tp br mu S → pin < n → S.1 3 3 = nI key → S.1 3 4 = nI pin → (∀ k p, p < n → n * k + p ≤ n * key + pin → S.1 (10 + k) p = nI (v (n * k + p)) ∧ v (n * k + p) < m) → key + 1 < N →
    ∃ S', Fr E34 S S' ∧ (match back m v (n * key + pin) with
    | none => f_Search_goBack_L0 N S = some (.inr S')
    | some i => f_Search_goBack_L0 N S = some (.inl (nI 1, S')) ∧ ∃ k p, k ≤ key ∧ p < n ∧ i = n * k + p ∧ S'.1 3 3 = nI k ∧ S'.1 3 4 = nI p) := by
  have hB' := hB
  obtain ⟨b1, b2, b3, b4, b5, b6, b7, b8, b9⟩ := hB
  intro key
  induction key with
  | zero =>
    intro pin N S hk hR hp e3 e4 hv hN
    obtain ⟨N, rfl⟩ : ∃ M, N = M + 1 := ⟨N - 1, by omega⟩
    obtain ⟨S', g1, g2, g3⟩ := c_gb7 hB' (v := v) (show 0 < 8 by omega) pin FU S hR hp e3 e4 (fun p hp => hv 0 p (by omega) (by omega)) (by rw [FU_eq]; omega)
    rcases g3 with ⟨q, h1, h2, h3, h4⟩ | ⟨h1, h2, h3⟩
    · refine ⟨S', g1, ?_⟩
      rw [h2]
      refine ⟨?_, 0, q, by omega, by omega, rfl, g2, h4⟩
      rw [f_Search_goBack_L0_s]
      simp (disch := omega) only [q_le_t, q_le_f, q_lt_t, q_lt_f, q_eq_t, q_eq_f, q_oob, q_cl, q_mul, nI_add, z0, z1, z2, z4, z6, z7, z8, z64, z512, zT, if_b0, if_b1, if_b01, ite_true, ite_false, ↓reduceIte, Option.bind_some, Sum.elim_inl, Sum.elim_inr, e3, h3]
    · refine ⟨wI (wI S' 3 4 (nI (n - 1))) 3 3 (nI 0 - nI 1), Fr_tr g1 (Fr_tr (Fr_w ⟨rfl, Or.inr rfl⟩) (Fr_w ⟨rfl, Or.inl rfl⟩)), ?_⟩
      rw [h1 rfl]
      obtain ⟨N, rfl⟩ : ∃ M, N = M + 1 := ⟨N - 1, by omega⟩
      have r1 := (CQ_e g1 hR).1
      show f_Search_goBack_L0 (N + 1 + 1) S = _
      rw [f_Search_goBack_L0_s]
      simp (disch := omega) only [q_le_t, q_le_f, q_lt_t, q_lt_f, q_eq_t, q_eq_f, q_oob, q_cl, q_mul, nI_add, z0, z1, z2, z4, z6, z7, z8, z64, z512, zT, if_b0, if_b1, if_b01, ite_true, ite_false, ↓reduceIte, Option.bind_some, Sum.elim_inl, Sum.elim_inr, e3, h3, g2, r1, q_sub]
      rw [f_Search_goBack_L0_s, w_s, if_pos (by decide +kernel)]
  | succ key ih =>
    intro pin N S hk hR hp e3 e4 hv hN
    obtain ⟨N, rfl⟩ : ∃ M, N = M + 1 := ⟨N - 1, by omega⟩
    obtain ⟨S', g1, g2, g3⟩ := c_gb7 hB' (v := v) hk pin FU S hR hp e3 e4 (fun p hp => hv (key + 1) p (by omega) (by omega)) (by rw [FU_eq]; omega)
    rcases g3 with ⟨q, h1, h2, h3, h4⟩ | ⟨h1, h2, h3⟩
    · refine ⟨S', g1, ?_⟩
      rw [h2]
      refine ⟨?_, key + 1, q, by omega, by omega, rfl, g2, h4⟩
      rw [f_Search_goBack_L0_s]
      simp (disch := omega) only [q_le_t, q_le_f, q_lt_t, q_lt_f, q_eq_t, q_eq_f, q_oob, q_cl, q_mul, nI_add, z0, z1, z2, z4, z6, z7, z8, z64, z512, zT, if_b0, if_b1, if_b01, ite_true, ite_false, ↓reduceIte, Option.bind_some, Sum.elim_inl, Sum.elim_inr, e3, h3]
    · have hF : Fr E34 S (wI (wI S' 3 4 (nI (n - 1))) 3 3 (nI key)) := Fr_tr g1 (Fr_tr (Fr_w ⟨rfl, Or.inr rfl⟩) (Fr_w ⟨rfl, Or.inl rfl⟩))
      have hmul : n * (key + 1) = n * key + n := Nat.mul_succ n key
      have r1 := (CQ_e g1 hR).1
      have e1 : f_Search_goBack_L0 (N + 1) S = f_Search_goBack_L0 N (wI (wI S' 3 4 (nI (n - 1))) 3 3 (nI key)) := by
        rw [f_Search_goBack_L0_s]
        simp (disch := omega) only [q_le_t, q_le_f, q_lt_t, q_lt_f, q_eq_t, q_eq_f, q_oob, q_cl, q_mul, nI_add, z0, z1, z2, z4, z6, z7, z8, z64, z512, zT, if_b0, if_b1, if_b01, ite_true, ite_false, ↓reduceIte, Option.bind_some, Sum.elim_inl, Sum.elim_inr, e3, h3, g2, r1, q_sub]
        rw [show key + 1 - 1 = key by omega]
      obtain ⟨S'', j1, j2⟩ := ih (n - 1) N _ (by omega) (CQ_e hF hR) (by omega) w_s (by rw [w_n (by omega), w_s]) (fun k p hp hi => by
        rw [hF.2 (10 + k) p (by unfold E34; omega)]
        exact hv k p hp (by omega)) (by omega)
      refine ⟨S'', Fr_tr hF j1, ?_⟩
      rw [h2 (n * key + (n - 1)) (by omega), e1]
      cases hb : back m v (n * key + (n - 1)) with
      | none => rw [hb] at j2; exact j2
      | some i =>
        rw [hb] at j2
        obtain ⟨l1, k, p, l2, l3, l4, l5⟩ := j2
        exact ⟨l1, k, p, by omega, l3, l4, l5⟩
end ClsRun
