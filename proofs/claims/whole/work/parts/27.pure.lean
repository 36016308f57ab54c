def FrK (S S' : SS) : Prop := (∀ p k, ¬ (p = 3 ∨ (10 ≤ p ∧ p < 18)) → S'.1 p k = S.1 p k) ∧ (∀ p k, ¬ (p = 7 ∨ (19 ≤ p ∧ p < 27)) → S'.2 p k = S.2 p k)
theorem FrK_rfl {S : SS} : FrK S S := ⟨fun _ _ _ => rfl, fun _ _ _ => rfl⟩
theorem FrK_tr {S T U : SS} (h : FrK S T) (g : FrK T U) : FrK S U := ⟨fun p k e => (g.1 p k e).trans (h.1 p k e), fun p k e => (g.2 p k e).trans (h.2 p k e)⟩
theorem FrK_w {S : SS} {p k : Nat} {x : Int32} (h : p = 3 ∨ (10 ≤ p ∧ p < 18)) : FrK S (wI S p k x) := ⟨fun a b e => w_n (fun q => e (by omega)), fun _ _ _ => rfl⟩
theorem FrK_a {S S' : SS} {j : Nat} (hj : j < 8) (h : FrA j S S') : FrK S S' := ⟨fun a b _ => by rw [h.1], fun p k e => h.2 p k (by omega)⟩
theorem FrK_e {S S' : SS} (h : Fr E34 S S') : FrK S S' := ⟨fun p k e => h.2 p k (by unfold E34; omega), fun _ _ _ => by rw [h.1]⟩
theorem CQ_k {n m K D st tp : Nat} {br mu : Nat → Nat → Prop} {S S' : SS} (h : FrK S S') (hR : CQ n m K D st tp br mu S) : CQ n m K D st tp br mu S' :=
  CQ_f (fun p k q => h.1 p k (by omega)) (h.2 1 4 (by omega)) hR
section ClsLook
variable {n m K D st tp : Nat} {br mu : Nat → Nat → Prop}
theorem c_look_L (hB : BD n m K D st tp) {L : Nat} (hL : L ≤ 200000) : ∀ t key pin (v : Nat → Nat) N (S : SS), CQ n m K D st tp br mu S → key < K → pin < n → S.1 3 3 = nI key → S.1 3 4 = nI pin → (∀ k p, p < n → n * k + p < n * key + pin → S.1 (10 + k) p = nI (v (n * k + p)) ∧ v (n * k + p) < m) → S.1 (10 + key) pin + nI 1 = nI (v (n * key + pin)) → v (n * key + pin) < m → SR n m D tp mu key v S → t ≤ L → S.1 3 2 = nI (L - t) → t < N →
    ∃ S', FrK S S' ∧ S'.1 3 2 = nI (L - (srch (okP n m D tp st br mu) m (n * K) t (n * key + pin) v).2.2) ∧
      (((srch (okP n m D tp st br mu) m (n * K) t (n * key + pin) v).1 = 2 ∧ f_Search_look_L33 (nI L) N S = some (.inr S')) ∨
       ((srch (okP n m D tp st br mu) m (n * K) t (n * key + pin) v).1 = 0 ∧ f_Search_look_L33 (nI L) N S = some (.inl (nI 0, S'))) ∨
       ((srch (okP n m D tp st br mu) m (n * K) t (n * key + pin) v).1 = 1 ∧ f_Search_look_L33 (nI L) N S = some (.inl (nI 1, S')) ∧ (∀ k p, k < K → p < n → S'.1 (10 + k) p = nI ((srch (okP n m D tp st br mu) m (n * K) t (n * key + pin) v).2.1 (n * k + p))) ∧ SR n m D tp mu K (srch (okP n m D tp st br mu) m (n * K) t (n * key + pin) v).2.1 S')) := by
  have hB' := hB
  obtain ⟨b1, b2, b3, b4, b5, b6, b7, b8, b9⟩ := hB
  intro t
  induction t with
  | zero =>
    intro key pin v N S hR hk hp e3 e4 hv hc hm hs ht h2 hN
    obtain ⟨N, rfl⟩ : ∃ M, N = M + 1 := ⟨N - 1, by omega⟩
    refine ⟨S, FrK_rfl, h2, Or.inl ⟨rfl, ?_⟩⟩
    rw [f_Search_look_L33_s]
    simp (disch := omega) only [q_le_t, q_le_f, q_lt_t, q_lt_f, q_eq_t, q_eq_f, q_oob, q_cl, q_mul, nI_add, z0, z1, z2, z4, z6, z7, z8, z64, z512, zT, if_b0, if_b1, if_b01, ite_true, ite_false, ↓reduceIte, Option.bind_some, Sum.elim_inl, Sum.elim_inr, h2]
  | succ t ih =>
    intro key pin v N S hR hk hp e3 e4 hv hc hm hs ht h2 hN
    obtain ⟨N, rfl⟩ : ∃ M, N = M + 1 := ⟨N - 1, by omega⟩
    have hF1 : FrK S (wI (wI S 3 2 (nI (L - (t + 1) + 1))) (10 + key) pin (nI (v (n * key + pin)))) := FrK_tr (FrK_w (Or.inl rfl)) (FrK_w (Or.inr (by omega)))
    have hv1 : ∀ k p, p < n → n * k + p ≤ n * key + pin → (wI (wI S 3 2 (nI (L - (t + 1) + 1))) (10 + key) pin (nI (v (n * key + pin)))).1 (10 + k) p = nI (v (n * k + p)) ∧ v (n * k + p) < m := by
      intro k p hp2 hle
      by_cases hq : 10 + k = 10 + key ∧ p = pin
      · obtain ⟨q1, q2⟩ := hq
        have : k = key := by omega
        subst this
        subst q2
        rw [w_s]; exact ⟨rfl, hm⟩
      · rw [w_n hq, w_n (by omega)]
        apply hv k p hp2
        rcases Nat.lt_or_ge (n * k + p) (n * key + pin) with h | h
        · exact h
        · exfalso
          have he : n * k + p = n * key + pin := by omega
          have h1 : (n * k + p) / n = k := by rw [Nat.mul_add_div (by omega), Nat.div_eq_of_lt hp2, Nat.add_zero]
          have h2 : (n * key + pin) / n = key := by rw [Nat.mul_add_div (by omega), Nat.div_eq_of_lt hp, Nat.add_zero]
          rw [he, h2] at h1
          subst h1
          omega
    have hs1 : SR n m D tp mu key v (wI (wI S 3 2 (nI (L - (t + 1) + 1))) (10 + key) pin (nI (v (n * key + pin)))) := SR_c (Nat.le_refl key) (fun _ _ => rfl) (fun _ _ => rfl) (fun _ _ _ => rfl) hs
    obtain ⟨S2, g1, g2, g3, g4⟩ := c_std hB' (CQ_k hF1 hR) (show key < 8 by omega) hp (by rw [w_n (by omega), w_n (by omega)]; exact e3) (by rw [w_n (by omega), w_n (by omega)]; exact e4) hv1 hs1
    have hF2 : FrK S S2 := FrK_tr hF1 (FrK_a (by omega) g1)
    have hR2 := CQ_k hF2 hR
    have hv2 : ∀ k p, p < n → n * k + p ≤ n * key + pin → S2.1 (10 + k) p = nI (v (n * k + p)) ∧ v (n * k + p) < m := by
      rw [g1.1]; exact hv1
    have f3 : S2.1 3 3 = nI key := by rw [g1.1, w_n (by omega), w_n (by omega)]; exact e3
    have f4 : S2.1 3 4 = nI pin := by rw [g1.1, w_n (by omega), w_n (by omega)]; exact e4
    have f2 : S2.1 3 2 = nI (L - t) := by rw [g1.1, w_n (by omega), w_s]; congr 1; omega
    have hmul : n * (key + 1) = n * key + n := Nat.mul_succ n key
    have hK1 : n * (key + 1) ≤ n * K := Nat.mul_le_mul_left n hk
    have e0 : f_Search_look_L33 (nI L) (N + 1) S = cif (okP n m D tp st br mu (n * key + pin) v)
        ((f_Search_goOn S2).bind fun o5 => if o5.1 = nI 0 then some (.inl (nI 1, o5.2)) else f_Search_look_L33 (nI L) N o5.2)
        ((f_Search_goBack S2).bind fun o4 => if o4.1 = nI 0 then some (.inl (nI 0, o4.2)) else f_Search_look_L33 (nI L) N o4.2) := by
      rw [f_Search_look_L33_s]
      simp (disch := omega) only [q_le_t, q_le_f, q_lt_t, q_lt_f, q_eq_t, q_eq_f, q_oob, q_cl, q_mul, nI_add, z0, z1, z2, z4, z6, z7, z8, z64, z512, zT, if_b0, if_b1, if_b01, ite_true, ite_false, ↓reduceIte, Option.bind_some, Sum.elim_inl, Sum.elim_inr, h2, e3, e4, w_n, hc, g2]
    rw [e0]
    unfold srch
    rcases Classical.em (okP n m D tp st br mu (n * key + pin) v) with hok | hok
    · rw [cif_t hok, cif_t hok, f_Search_goOn_s]
      have r1 := hR2.1
      have r5 := hR2.2.2.2.2.1
      by_cases hp1 : pin < n - 1
      · rw [if_neg (show ¬ n * key + pin + 1 = n * K by omega)]
        simp (disch := omega) only [q_le_t, q_le_f, q_lt_t, q_lt_f, q_eq_t, q_eq_f, q_oob, q_cl, q_mul, nI_add, z0, z1, z2, z4, z6, z7, z8, z64, z512, zT, if_b0, if_b1, if_b01, ite_true, ite_false, ↓reduceIte, Option.bind_some, Sum.elim_inl, Sum.elim_inr, f3, f4, r1, r5, q_sub]
        have hF3 : FrK S2 (wI (wI S2 3 4 (nI (pin + 1))) (10 + key) (pin + 1) (-nI 1)) := FrK_tr (FrK_w (Or.inl rfl)) (FrK_w (Or.inr (by omega)))
        obtain ⟨S', j1, j2⟩ := ih key (pin + 1) (up v (n * key + (pin + 1)) 0) N _ (CQ_k hF3 hR2) hk (by omega) (by rw [w_n (by omega), w_n (by omega)]; exact f3) (by rw [w_n (by omega), w_s]) (fun k p hp2 hle => by
          rw [up_n (by omega), w_n (fun q => by have : k = key := by omega
                                                subst this; omega), w_n (by omega)]
          exact hv2 k p hp2 (by omega)) (by rw [w_s, up_s]; decide +kernel) (by rw [up_s]; omega) (SR_c (Nat.le_refl key) (fun i hi => by rw [up_n (by omega)]) (fun _ _ => rfl) (fun _ _ _ => rfl) g3) (by omega) (by rw [w_n (by omega), w_n (by omega)]; exact f2) (by omega)
        exact ⟨S', FrK_tr hF2 (FrK_tr hF3 j1), j2⟩
      · have g4 := g4 hok (by omega)
        by_cases hk1 : key + 1 < K
        · have hK2 : n * (key + 1 + 1) ≤ n * K := Nat.mul_le_mul_left n hk1
          have hmul2 : n * (key + 1 + 1) = n * (key + 1) + n := Nat.mul_succ n (key + 1)
          have ea : n * key + pin + 1 = n * (key + 1) + 0 := by omega
          rw [if_neg (show ¬ n * key + pin + 1 = n * K by omega), ea]
          simp (disch := omega) only [q_le_t, q_le_f, q_lt_t, q_lt_f, q_eq_t, q_eq_f, q_oob, q_cl, q_mul, nI_add, z0, z1, z2, z4, z6, z7, z8, z64, z512, zT, if_b0, if_b1, if_b01, ite_true, ite_false, ↓reduceIte, Option.bind_some, Sum.elim_inl, Sum.elim_inr, f3, f4, r1, r5, q_sub]
          have hF3 : FrK S2 (wI (wI (wI S2 3 3 (nI (key + 1))) 3 4 (nI 0)) (10 + (key + 1)) 0 (-nI 1)) := FrK_tr (FrK_w (Or.inl rfl)) (FrK_tr (FrK_w (Or.inl rfl)) (FrK_w (Or.inr (by omega))))
          obtain ⟨S', j1, j2⟩ := ih (key + 1) 0 (up v (n * (key + 1) + 0) 0) N _ (CQ_k hF3 hR2) hk1 (by omega) (by rw [w_n (by omega), w_n (by omega), w_s]) (by rw [w_n (by omega), w_s]) (fun k p hp2 hle => by
            rw [up_n (by omega), w_n (fun q => by have : k = key + 1 := by omega
                                                  subst this; omega), w_n (by omega), w_n (by omega)]
            exact hv2 k p hp2 (by omega)) (by rw [w_s, up_s]; decide +kernel) (by rw [up_s]; omega) (SR_c (Nat.le_refl _) (fun i hi => by rw [up_n (by omega)]) (fun _ _ => rfl) (fun _ _ _ => rfl) g4) (by omega) (by rw [w_n (by omega), w_n (by omega), w_n (by omega)]; exact f2) (by omega)
          exact ⟨S', FrK_tr hF2 (FrK_tr hF3 j1), j2⟩
        · have hkk : key + 1 = K := by omega
          have ea : n * key + pin + 1 = n * K := by rw [← hkk]; omega
          rw [if_pos ea]
          simp (disch := omega) only [q_le_t, q_le_f, q_lt_t, q_lt_f, q_eq_t, q_eq_f, q_oob, q_cl, q_mul, nI_add, z0, z1, z2, z4, z6, z7, z8, z64, z512, zT, if_b0, if_b1, if_b01, ite_true, ite_false, ↓reduceIte, Option.bind_some, Sum.elim_inl, Sum.elim_inr, f3, f4, r1, r5, q_sub]
          refine ⟨S2, hF2, f2, Or.inr (Or.inr ⟨by first | trivial | rfl, by first | trivial | rfl, fun k p hk2 hp2 => (hv2 k p hp2 ?_).1, hkk ▸ g4⟩)⟩
          have := nkp hk2 hp2
          omega
    · rw [cif_f hok, cif_f hok, f_Search_goBack_s]
      obtain ⟨S3, j1, j2⟩ := c_gb0 hB' (v := v) key pin FU S2 (by omega) hR2 hp f3 f4 hv2 (by rw [FU_eq]; omega)
      have j32 : S3.1 3 2 = nI (L - t) := by rw [j1.2 3 2 (by unfold E34; omega)]; exact f2
      cases hb : back m v (n * key + pin) with
      | none =>
        rw [hb] at j2
        simp only [] at j2
        rw [j2]
        exact ⟨S3, FrK_tr hF2 (FrK_e j1), j32, Or.inr (Or.inl ⟨rfl, rfl⟩)⟩
      | some i =>
        rw [hb] at j2
        obtain ⟨l1, k, p, l2, l3, l4, l5, l6⟩ := j2
        obtain ⟨q1, q2⟩ := back_i hb
        rw [l1]
        subst l4
        have hnk : n * k ≤ n * key := Nat.mul_le_mul_left n l2
        have hv3 : ∀ k' p', p' < n → n * k' + p' ≤ n * key + pin → S3.1 (10 + k') p' = nI (v (n * k' + p')) ∧ v (n * k' + p') < m := fun k' p' h1 h2 => by
          rw [j1.2 _ _ (by unfold E34; omega)]; exact hv2 k' p' h1 h2
        obtain ⟨S', o1, o2⟩ := ih k p (up v (n * k + p) (v (n * k + p) + 1)) N S3 (CQ_k (FrK_e j1) hR2) (by omega) l3 l5 l6 (fun k' p' h1 h2 => by
          rw [up_n (by omega)]; exact hv3 k' p' h1 (by omega)) (by rw [up_s, (hv3 k p l3 q1).1, nI_add]) (by rw [up_s]; omega) (SR_c l2 (fun i hi => by rw [up_n (by omega)]) (fun _ _ => by rw [j1.1]) (fun _ _ _ => by rw [j1.1]) g3) (by omega) j32 (by omega)
        exact ⟨S', FrK_tr hF2 (FrK_tr (FrK_e j1) o1), o2⟩
end ClsLook
