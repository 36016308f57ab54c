set_option maxHeartbeats 4000000 in
set_option maxRecDepth 100000 in
theorem c_MK_tries (l : Launch) (D : va_G) (cA : Nat → ClassId) (ad : Nat → Nat) (hI : InjA ad) (sz : Nat) (S : SS) (hs : f_MK_tries S ≠ none) : Met l y_MK_tries w_MK_tries ({ frames := 0, cells := 0, slots := 0, locals := 0 }) (va_Pc [.ref (ad 0)] (fun U => U.heap.size = sz ∧ va_P D vwCl (X cA ad S) U.heap ∧ va_K D vwCl (tysX cA) U)) (va_Qi (fun (r : Int32) (_ : Unit) => f_MK_tries S = some r) (fun (_ : Unit) t => va_P D vwCl (X cA ad S) t.heap ∧ va_K D vwCl (tysX cA) t) (AS ad sz)) 0 0 (AS ad sz) := by
  refine Met.ofW (cc := b_MK_tries) (maxL := 1) (ret := (some .int)) (by decide) rfl ?_
  intro p e s m args below meth c s₁ B hml hv
  obtain ⟨rfl, hsz, hP, hK⟩ := hv
  have hx := B.exec
  have hb := B.bytes
  have hr := B.returns
  have hts := atoms_spec (ws := w_MK_tries) B.pre
  have ht := fun w h => hts w (List.mem_cons_of_mem _ h)
  have hown : s.vm.findClass R_MK = some m.cls := findClass_of_methodNamed B.named
  have hlocks := B.notSynchronized
  subst hsz
  have hAd : ∀ q, q < NP → AS ad s.heap.size (ad q) := fun q h => Or.inl ⟨q, h, rfl⟩
  have hA : ∀ q : Nat, s.heap.size ≤ q → AS ad s.heap.size q := fun q h => Or.inr h
  have hAS : ∀ z : Nat, s.heap.size ≤ z → ∀ q : Nat, AS ad z q → AS ad s.heap.size q := fun z h q hq => hq.elim Or.inl (fun g => Or.inr (Nat.le_trans h g))
  generalize hAe : AS ad s.heap.size = A at hAd hA hAS ⊢
  have hS : va_S A s.heap s.heap [] := va_S.rf
  have hl := lv_entry ([.ref (ad 0)]) (n := 1) (Nat.le_of_ble_eq_true rfl)
  rw [lg_entry_eq]
  generalize (lg_sl ([.ref (ad 0)]) ++ List.replicate (1 - (lg_sl ([.ref (ad 0)])).length) Slot.unset).toArray = ls at hl ⊢
  have hl : lv_has ls 1 [(0, .ref (ad 0))] := hl
  have hf := (f_MK_tries_s S).symm
  generalize hQ : MQ below _ _ s _ _ _ = Q
  refine lv_aload_n hx hb d_MK_tries_0 rfl (lv_at hl 0 rfl) ?_
  refine va_get (D := D) (ci := 0) (v := .ref (ad 3)) (C := R_MK) (T := T_MK) (N := 5) hx hb ht i_MK hown hK hP 0 Xa_0 rfl 2 (by decide) (ht _ mF_MK_41) (fun _ h9 => h9) rfl d_MK_tries_1 ?_
  refine va_get (D := D) (ci := 3) (v := .int (S.1 3 2)) (C := R_Search) (T := T_Search) (N := 5) hx hb ht i_Search hown hK hP 3 Xa_3 rfl 2 (by decide) (ht _ mF_MK_118) (fun _ h9 => h9) rfl d_MK_tries_4 ?_
  rw [← hQ]
  exact W.iret (v := S.1 3 2) hx hb hr (fun t ht hW => ⟨⟨S.1 3 2, (), rfl, hf.symm, by rw [ht]; exact hP, va_K.moved hW.alike hK⟩, hS.F ht⟩) hS.2.2 d_MK_tries_7
set_option maxHeartbeats 4000000 in
set_option maxRecDepth 100000 in
theorem c_MK_wrong (l : Launch) (D : va_G) (cA : Nat → ClassId) (ad : Nat → Nat) (hI : InjA ad) (sz : Nat) (S : SS) (hs : f_MK_wrong S ≠ none) : Met l y_MK_wrong w_MK_wrong ({ frames := 3, cells := 0, slots := 0, locals := 68 }) (va_Pc [.ref (ad 0)] (fun U => U.heap.size = sz ∧ va_P D vwCl (X cA ad S) U.heap ∧ va_K D vwCl (tysX cA) U)) (va_Qi (fun (r : Int32) (_ : Unit) => f_MK_wrong S = some r) (fun (_ : Unit) t => va_P D vwCl (X cA ad S) t.heap ∧ va_K D vwCl (tysX cA) t) (AS ad sz)) 0 0 (AS ad sz) := by
  refine Met.ofW (cc := b_MK_wrong) (maxL := 3) (ret := (some .int)) (by decide) rfl ?_
  intro p e s m args below meth c s₁ B hml hv
  obtain ⟨rfl, hsz, hP, hK⟩ := hv
  have hx := B.exec
  have hb := B.bytes
  have hr := B.returns
  have hts := atoms_spec (ws := w_MK_wrong) B.pre
  have ht := fun w h => hts w (List.mem_cons_of_mem _ h)
  have hown : s.vm.findClass R_MK = some m.cls := findClass_of_methodNamed B.named
  have hlocks := B.notSynchronized
  subst hsz
  have hAd : ∀ q, q < NP → AS ad s.heap.size (ad q) := fun q h => Or.inl ⟨q, h, rfl⟩
  have hA : ∀ q : Nat, s.heap.size ≤ q → AS ad s.heap.size q := fun q h => Or.inr h
  have hAS : ∀ z : Nat, s.heap.size ≤ z → ∀ q : Nat, AS ad z q → AS ad s.heap.size q := fun z h q hq => hq.elim Or.inl (fun g => Or.inr (Nat.le_trans h g))
  generalize hAe : AS ad s.heap.size = A at hAd hA hAS ⊢
  have hS : va_S A s.heap s.heap [] := va_S.rf
  have hl := lv_entry ([.ref (ad 0)]) (n := 3) (Nat.le_of_ble_eq_true rfl)
  rw [lg_entry_eq]
  generalize (lg_sl ([.ref (ad 0)]) ++ List.replicate (3 - (lg_sl ([.ref (ad 0)])).length) Slot.unset).toArray = ls at hl ⊢
  have hl : lv_has ls 3 [(0, .ref (ad 0))] := hl
  have hf := (f_MK_wrong_s S).symm
  generalize hQ : MQ below _ _ s _ _ _ = Q
  refine lv_aload_n hx hb d_MK_wrong_0 rfl (lv_at hl 0 rfl) ?_
  refine va_get (D := D) (ci := 0) (v := .int (S.1 0 4)) (C := R_MK) (T := T_MK) (N := 5) hx hb ht i_MK hown hK hP 0 Xa_0 rfl 4 (by decide) (ht _ mF_MK_63) (fun _ h9 => h9) rfl d_MK_wrong_1 ?_
  refine lv_if_ne (tgt := 9) hx hb d_MK_wrong_4 (by decide) (fun c1 => ?_) (fun c1 => ?_)
  · rw [if_neg c1] at hf
    refine lv_iconst (v := 0) hx hb d_MK_wrong_9 (by decide) ?_
    refine lv_istore_n (lv' := [(1, .int (0 : Int32)), (0, .ref (ad 0))]) hx hb d_MK_wrong_10 rfl hl (by decide) rfl (fun ls hl => ?_)
    refine lv_iconst (v := 0) hx hb d_MK_wrong_11 (by decide) ?_
    refine lv_istore_n (lv' := [(2, .int (0 : Int32)), (1, .int (0 : Int32)), (0, .ref (ad 0))]) hx hb d_MK_wrong_12 rfl hl (by decide) rfl (fun ls hl => ?_)
    have lp13_1 : ∀ (n : Nat) (x1_1 : Int32) (x2_1 : Int32) (H : Heap) (locs : List Loc) (ls : Array Slot), va_P D vwCl (X cA ad S) H → va_S A s.heap H locs → lv_has ls 3 [(0, .ref (ad 0)), (1, .int x1_1), (2, .int x2_1)] → f_MK_wrong_L13 n x1_1 x2_1 S ≠ none →
        (∀ v : Int32, f_MK_wrong_L13 n x1_1 x2_1 S = some v → ∀ (H : Heap) (locs : List Loc) (ls : Array Slot), va_P D vwCl (X cA ad S) H → va_S A s.heap H locs → lv_has ls 3 [(0, .ref (ad 0)), (1, .int v)] → W p l e (headSpec w_MK_wrong ({ frames := 3, cells := 0, slots := 0, locals := 68 })).room s m ([.ref (ad 0)] : List Value).toArray below meth c H locs 0 0 Q (F0 m 54 ls [])) →
        W p l e (headSpec w_MK_wrong ({ frames := 3, cells := 0, slots := 0, locals := 68 })).room s m ([.ref (ad 0)] : List Value).toArray below meth c H locs 0 0 Q (F0 m 13 ls []) := by
      intro n
      induction n with
      | zero => intro x1_1 x2_1 H locs ls hP hS hl hs; exact absurd rfl hs
      | succ n ih =>
        intro x1_1 x2_1 H locs ls hP hS hl hs hexit
        have hf := (f_MK_wrong_L13_s n x1_1 x2_1 S).symm
        refine lv_iload_n hx hb d_MK_wrong_13 rfl (lv_at hl 2 rfl) ?_
        refine lv_aload_n hx hb d_MK_wrong_14 rfl (lv_at hl 0 rfl) ?_
        refine va_get (D := D) (ci := 0) (v := .ref (ad 2)) (C := R_MK) (T := T_MK) (N := 5) hx hb ht i_MK hown hK hP 0 Xa_0 rfl 1 (by decide) (ht _ mF_MK_32) (fun _ h9 => h9) rfl d_MK_wrong_15 ?_
        refine va_get (D := D) (ci := 2) (v := .int (S.1 2 1)) (C := R_Board) (T := T_Board) (N := 7) hx hb ht i_Board hown hK hP 2 Xa_2 rfl 1 (by decide) (ht _ mF_MK_52) (fun _ h9 => h9) rfl d_MK_wrong_18 ?_
        refine lv_icmp_ge (tgt := 54) hx hb d_MK_wrong_21 (by decide) (fun c2 => ?_) (fun c2 => ?_)
        · rw [if_pos c2] at hf
          exact hexit _ hf.symm _ _ _ hP hS (lv_sub hl [0, 1] rfl)
        · rw [if_neg c2] at hf
          refine lv_iload_n hx hb d_MK_wrong_24 rfl (lv_at hl 1 rfl) ?_
          refine lv_aload_n hx hb d_MK_wrong_25 rfl (lv_at hl 0 rfl) ?_
          refine va_get (D := D) (ci := 0) (v := .ref (ad 2)) (C := R_MK) (T := T_MK) (N := 5) hx hb ht i_MK hown hK hP 0 Xa_0 rfl 1 (by decide) (ht _ mF_MK_32) (fun _ h9 => h9) rfl d_MK_wrong_26 ?_
          refine lv_iload_n hx hb d_MK_wrong_29 rfl (lv_at hl 2 rfl) ?_
          refine va_calli (va_runV (As := [.int x2_1]) (rest := [.int x1_1]) ⟨hx, hb, hml, hown, ht⟩ (c_Board_doorsOf l D cA ad hI H.size x2_1 S (fun hn => hs (by rw [hn] at hf; exact hf.symm))) (cwV 1 ht (good_G (gV mM_MK_131 mI_Board_doorsOf mV_Board_doorsOf mN_Board mk_Board_doorsOf)) rfl rfl rfl (by decide +kernel) ⟨Nat.le_of_ble_eq_true rfl, Nat.le_of_ble_eq_true rfl⟩) ⟨fun a U g mk q => ⟨q.1, q.2.1, q.2.2.1, va_K.moved (u := U) (U := U.calling g mk a) (Vm.Alike.refl U.vm) q.2.2.2⟩, va_recv hK hP (ci := 2) (q0 := 2) rfl Xa_2, fun U hU hW => ⟨rfl, by rw [hU], by rw [hU]; exact hP, va_K.moved hW.alike hK⟩⟩ rfl rfl hl.1 rfl (lv_room (Nat.le_of_ble_eq_true rfl)) d_MK_wrong_30 ⟨Nat.le_of_ble_eq_true rfl, Nat.le_of_ble_eq_true rfl⟩) hS (fun q _ h => hAS _ hS.1 q h) (fun q h => hAS _ hS.1 q h) (fun r1 _ t H locs ht9 hvm hw hB hz1 hk1 hS => ?_)
          obtain ⟨hP, hK9⟩ := hB
          rw [ht9] at hP
          rw [hw, Option.bind_some] at hf
          refine lv_aload_n hx hb d_MK_wrong_33 rfl (lv_at hl 0 rfl) ?_
          refine va_get (D := D) (ci := 0) (v := .ref (ad 2)) (C := R_MK) (T := T_MK) (N := 5) hx hb ht i_MK hown hK hP 0 Xa_0 rfl 1 (by decide) (ht _ mF_MK_32) (fun _ h9 => h9) rfl d_MK_wrong_34 ?_
          refine va_get (D := D) (ci := 2) (v := .ref (ad 5)) (C := R_Board) (T := T_Board) (N := 7) hx hb ht i_Board hown hK hP 2 Xa_2 rfl 3 (by decide) (ht _ mF_MK_134) (fun _ h9 => h9) rfl d_MK_wrong_37 ?_
          refine lv_iload_n hx hb d_MK_wrong_40 rfl (lv_at hl 2 rfl) ?_
          by_cases b3 : oob x2_1 8
          · rw [if_pos b3] at hf; exact absurd hf.symm hs
          rw [if_neg b3] at hf
          refine va_iald (f := S.1 5) hx hb hK hP 5 0 Xa_5 rfl b3 d_MK_wrong_41 ?_
          refine lv_ixor hx hb d_MK_wrong_42 ?_
          refine va_calli (va_runS (As := [.int (r1 ^^^ (S.1 5 x2_1.toNatClampNeg))]) (rest := [.int x1_1]) ⟨hx, hb, hml, hown, ht⟩ (c_JI_bitCount l D cA ad hI H.size (r1 ^^^ (S.1 5 x2_1.toNatClampNeg)) S (fun hn => hs (by rw [hn] at hf; exact hf.symm))) (va_cwS 1 ht (good_G (gS mM_MK_138 mS_JI_bitCount mN_JI mk_JI_bitCount)) rfl rfl rfl (by decide +kernel) ⟨Nat.le_of_ble_eq_true rfl, Nat.le_of_ble_eq_true rfl⟩) ⟨fun a U g mk q => ⟨q.1, q.2.1, q.2.2.1, va_K.moved (u := U) (U := U.calling g mk a) (Vm.Alike.refl U.vm) q.2.2.2⟩, fun U hU hW => ⟨rfl, by rw [hU], by rw [hU]; exact hP, va_K.moved hW.alike hK⟩⟩ rfl rfl hl.1 rfl (lv_room (Nat.le_of_ble_eq_true rfl)) d_MK_wrong_43 ⟨Nat.le_of_ble_eq_true rfl, Nat.le_of_ble_eq_true rfl⟩) hS (fun q _ h => hAS _ hS.1 q h) (fun q h => hAS _ hS.1 q h) (fun r2 _ t H locs ht9 hvm hw hB hz1 hk1 hS => ?_)
          obtain ⟨hP, hK9⟩ := hB
          rw [ht9] at hP
          rw [hw, Option.bind_some] at hf
          refine lv_iadd hx hb d_MK_wrong_46 ?_
          refine lv_istore_n (lv' := [(1, .int (x1_1 + r2)), (0, .ref (ad 0)), (2, .int x2_1)]) hx hb d_MK_wrong_47 rfl hl (by decide) rfl (fun ls hl => ?_)
          refine lv_iinc (v := x2_1 + 1) (lv' := [(2, .int (x2_1 + 1)), (1, .int (x1_1 + r2)), (0, .ref (ad 0))]) hx hb d_MK_wrong_48 hl (k := 2) rfl rfl (by decide) rfl (fun ls hl => ?_)
          refine lv_goto (tgt := 13) hx hb d_MK_wrong_51 (by decide) ?_
          exact ih (x1_1 + r2) (x2_1 + 1) _ _ _ hP hS (lv_sub hl [2, 1, 0] rfl) (fun hn => hs (hf.symm.trans hn)) (fun v ho => hexit v (hf.symm.trans ho))
    refine lp13_1 FU (0 : Int32) (0 : Int32) _ _ _ hP hS (lv_sub hl [2, 1, 0] rfl) (fun hn => ?_) (fun v4 hvv4 H locs ls hP hS hl => ?_)
    · rw [hn] at hf; exact hs hf.symm
    · rw [hvv4, Option.bind_some] at hf
      refine lv_iload_n hx hb d_MK_wrong_54 rfl (lv_at hl 1 rfl) ?_
      rw [← hQ]
      exact W.iret (v := v4) hx hb hr (fun t ht hW => ⟨⟨v4, (), rfl, hf.symm, by rw [ht]; exact hP, va_K.moved hW.alike hK⟩, hS.F ht⟩) hS.2.2 d_MK_wrong_55
  · rw [if_pos c1] at hf
    refine lv_iconst (v := (-1)) hx hb d_MK_wrong_7 (by decide) ?_
    rw [← hQ]
    exact W.iret (v := (-1 : Int32)) hx hb hr (fun t ht hW => ⟨⟨(-1 : Int32), (), rfl, hf.symm, by rw [ht]; exact hP, va_K.moved hW.alike hK⟩, hS.F ht⟩) hS.2.2 d_MK_wrong_8
set_option maxHeartbeats 4000000 in
set_option maxRecDepth 100000 in
theorem c_MK_key (l : Launch) (hlt : l.stackTraces = false) (D : va_G) (cA : Nat → ClassId) (ad : Nat → Nat) (hI : InjA ad) (sz : Nat) (S : SS) (hs : f_MK_key S ≠ none) : vx_Met l y_MK_key w_MK_key ({ frames := 6, cells := 1, slots := 6, locals := 90 }) (va_Pc [.ref (ad 0)] (fun U => U.heap.size = sz ∧ va_P D vwCl (X cA ad S) U.heap ∧ va_K D vwCl (tysX cA) U ∧ ZX (AS ad sz) U)) (va_Qi (fun (r : Int32) (u : SS) => f_MK_key S = some (.inr (r, u))) (fun (u : SS) t => va_P D vwCl (X cA ad u) t.heap ∧ va_K D vwCl (tysX cA) t) (AS ad sz)) (vx_X (fun (k : Nat) => f_MK_key S = some (.inl k) ∧ (k = 2)) (fun E k t => E = exN k ∧ va_P D vwCl (X cA ad S) t.heap ∧ va_K D vwCl (tysX cA) t) (AS ad sz)) 1 6 (AS ad sz) := by
  refine vx_ofW (cc := b_MK_key) (maxL := 1) (ret := (some .int)) (by decide) rfl ?_
  intro p e s m args below meth c s₁ B hml hnoex hv
  obtain ⟨rfl, hsz, hP, hK, hZ⟩ := hv
  have hx := B.exec
  have hb := B.bytes
  have hr := B.returns
  have hts := atoms_spec (ws := w_MK_key) B.pre
  have ht := fun w h => hts w (List.mem_cons_of_mem _ h)
  have hown : s.vm.findClass R_MK = some m.cls := findClass_of_methodNamed B.named
  have hlocks := B.notSynchronized
  subst hsz
  have hAd : ∀ q, q < NP → AS ad s.heap.size (ad q) := fun q h => Or.inl ⟨q, h, rfl⟩
  have hA : ∀ q : Nat, s.heap.size ≤ q → AS ad s.heap.size q := fun q h => Or.inr h
  have hAS : ∀ z : Nat, s.heap.size ≤ z → ∀ q : Nat, AS ad z q → AS ad s.heap.size q := fun z h q hq => hq.elim Or.inl (fun g => Or.inr (Nat.le_trans h g))
  generalize hAe : AS ad s.heap.size = A at hAd hA hAS hZ ⊢
  have hS : va_S A s.heap s.heap [] := va_S.rf
  have hl := lv_entry ([.ref (ad 0)]) (n := 1) (Nat.le_of_ble_eq_true rfl)
  rw [lg_entry_eq]
  generalize (lg_sl ([.ref (ad 0)]) ++ List.replicate (1 - (lg_sl ([.ref (ad 0)])).length) Slot.unset).toArray = ls at hl ⊢
  have hl : lv_has ls 1 [(0, .ref (ad 0))] := hl
  have hf := (f_MK_key_s S).symm
  generalize hQ : vx_MQ below _ _ _ s _ _ _ = Q
  refine lv_aload_n hx hb d_MK_key_0 rfl (lv_at hl 0 rfl) ?_
  refine va_get (D := D) (ci := 0) (v := .ref (ad 2)) (C := R_MK) (T := T_MK) (N := 5) hx hb ht i_MK hown hK hP 0 Xa_0 rfl 1 (by decide) (ht _ mF_MK_32) (fun _ h9 => h9) rfl d_MK_key_1 ?_
  refine va_get (D := D) (ci := 2) (v := .int (S.1 2 1)) (C := R_Board) (T := T_Board) (N := 7) hx hb ht i_Board hown hK hP 2 Xa_2 rfl 1 (by decide) (ht _ mF_MK_52) (fun _ h9 => h9) rfl d_MK_key_4 ?_
  refine lv_bipush (v := 8) hx hb d_MK_key_7 (by decide) ?_
  refine lv_icmp_lt (tgt := 22) hx hb d_MK_key_9 (by decide) (fun c1 => ?_) (fun c1 => ?_)
  · rw [if_pos c1] at hf
    refine lv_aload_n hx hb d_MK_key_22 rfl (lv_at hl 0 rfl) ?_
    refine lv_iconst (v := 0) hx hb d_MK_key_23 (by decide) ?_
    refine va_put (D := D) (ci := 0) (v := .int (0 : Int32)) (ty := .boolean) (C := R_MK) (T := T_MK) (N := 5) hx hb ht i_MK t_MK t_MK_ok n_MK hown hK hP (X_D hI hAd) hS 0 Xa_0 rfl 4 (by decide) (ht _ mF_MK_63) (fun _ h9 => h9) rfl (by decide +kernel) rfl rfl (Nat.le_of_ble_eq_true rfl) d_MK_key_24 (fun H locs hP _ hS => ?_)
    replace hP := X_putI (by decide) hP rfl
    refine lv_aload_n hx hb d_MK_key_27 rfl (lv_at hl 0 rfl) ?_
    refine va_get (D := D) (ci := 0) (v := .ref (ad 2)) (C := R_MK) (T := T_MK) (N := 5) hx hb ht i_MK hown hK hP 0 Xa_0 rfl 1 (by decide) (ht _ mF_MK_32) (fun _ h9 => h9) rfl d_MK_key_28 ?_
    refine lv_dup hx hb d_MK_key_31 rfl ?_
    refine va_get (D := D) (ci := 2) (v := .int (S.1 2 1)) (C := R_Board) (T := T_Board) (N := 7) hx hb ht i_Board hown hK hP 2 Xa_2 rfl 1 (by decide) (ht _ mF_MK_52) (fun _ h9 => h9) rfl d_MK_key_32 ?_
    refine lv_iconst (v := 1) hx hb d_MK_key_35 (by decide) ?_
    refine lv_iadd hx hb d_MK_key_36 ?_
    refine va_put (D := D) (ci := 2) (v := .int ((S.1 2 1) + (1 : Int32))) (ty := .int) (C := R_Board) (T := T_Board) (N := 7) hx hb ht i_Board t_Board t_Board_ok n_Board hown hK hP (X_D hI hAd) hS 2 Xa_2 rfl 1 (by decide) (ht _ mF_MK_52) (fun _ h9 => h9) rfl (by decide +kernel) rfl rfl (Nat.le_of_ble_eq_true rfl) d_MK_key_37 (fun H locs hP _ hS => ?_)
    replace hP := X_putI (by decide) hP rfl
    refine lv_aload_n hx hb d_MK_key_40 rfl (lv_at hl 0 rfl) ?_
    refine va_get (D := D) (ci := 0) (v := .ref (ad 2)) (C := R_MK) (T := T_MK) (N := 5) hx hb ht i_MK hown hK hP 0 Xa_0 rfl 1 (by decide) (ht _ mF_MK_32) (fun _ h9 => h9) rfl d_MK_key_41 ?_
    refine va_get (D := D) (ci := 2) (v := .int ((S.1 2 1) + (1 : Int32))) (C := R_Board) (T := T_Board) (N := 7) hx hb ht i_Board hown hK hP 2 Xa_2 rfl 1 (by decide) (ht _ mF_MK_52) (fun _ h9 => h9) rfl d_MK_key_44 ?_
    refine lv_iconst (v := 1) hx hb d_MK_key_47 (by decide) ?_
    refine lv_isub hx hb d_MK_key_48 ?_
    refine W.widen (k := 1) (n := 6) (by decide) (by decide) ?_
    rw [← hQ]
    refine vx_ret ?_
    exact W.iret (v := ((S.1 2 1) + (1 : Int32)) - (1 : Int32)) hx hb hr (fun t ht hW => ⟨⟨((S.1 2 1) + (1 : Int32)) - (1 : Int32), wI (wI S 0 4 (0 : Int32)) 2 1 ((S.1 2 1) + (1 : Int32)), rfl, hf.symm, by rw [ht]; exact hP, va_K.moved hW.alike hK⟩, hS.F ht⟩) hS.2.2 d_MK_key_49
  · rw [if_neg c1] at hf
    obtain ⟨sa, hsa⟩ := hZ.2.2.1 ("MasterKeys", 58, "there are 8 keys") (by decide +kernel)
    rw [← hQ]
    exact vx_throwS hx hb hlt hown (by decide +kernel) (by decide +kernel) (ht _ mK_MK_56) (ht _ mN_ISE) hsa (th_at2 ht hZ.2.2.2.1) th_good2 hZ.1 hZ.2.1 hS (hl.1.trans hml.symm) d_MK_key_12 d_MK_key_15 d_MK_key_16 d_MK_key_18 d_MK_key_21 (fun x hx9 => (hnoex x hx9).elim) (Nat.le_of_ble_eq_true rfl) (Nat.le_of_ble_eq_true rfl) (Nat.le_of_ble_eq_true rfl) (Nat.le_of_ble_eq_true rfl) hlocks (fun t ha hz hk => ⟨2, ⟨hf.symm, rfl⟩, ⟨rfl, hP.kept (fun k9 q9 h9 => hk _ (hP k9 q9 h9).lt), va_K.moved ha hK⟩, ⟨Nat.le_trans hS.1 hz, fun q h1 h2 => (hk q (Nat.lt_of_lt_of_le h1 hS.1)).trans (hS.2.1 q h1 h2)⟩⟩) hS.2.2 (Nat.le_of_ble_eq_true rfl) (Nat.le_of_ble_eq_true rfl)
set_option maxHeartbeats 4000000 in
set_option maxRecDepth 100000 in
theorem c_MK_door (l : Launch) (hlt : l.stackTraces = false) (D : va_G) (cA : Nat → ClassId) (ad : Nat → Nat) (hI : InjA ad) (sz : Nat) (S : SS) (hs : f_MK_door S ≠ none) : vx_Met l y_MK_door w_MK_door ({ frames := 6, cells := 1, slots := 6, locals := 90 }) (va_Pc [.ref (ad 0)] (fun U => U.heap.size = sz ∧ va_P D vwCl (X cA ad S) U.heap ∧ va_K D vwCl (tysX cA) U ∧ ZX (AS ad sz) U)) (va_Qi (fun (r : Int32) (u : SS) => f_MK_door S = some (.inr (r, u))) (fun (u : SS) t => va_P D vwCl (X cA ad u) t.heap ∧ va_K D vwCl (tysX cA) t) (AS ad sz)) (vx_X (fun (k : Nat) => f_MK_door S = some (.inl k) ∧ (k = 2)) (fun E k t => E = exN k ∧ va_P D vwCl (X cA ad S) t.heap ∧ va_K D vwCl (tysX cA) t) (AS ad sz)) 1 6 (AS ad sz) := by
  refine vx_ofW (cc := b_MK_door) (maxL := 1) (ret := (some .int)) (by decide) rfl ?_
  intro p e s m args below meth c s₁ B hml hnoex hv
  obtain ⟨rfl, hsz, hP, hK, hZ⟩ := hv
  have hx := B.exec
  have hb := B.bytes
  have hr := B.returns
  have hts := atoms_spec (ws := w_MK_door) B.pre
  have ht := fun w h => hts w (List.mem_cons_of_mem _ h)
  have hown : s.vm.findClass R_MK = some m.cls := findClass_of_methodNamed B.named
  have hlocks := B.notSynchronized
  subst hsz
  have hAd : ∀ q, q < NP → AS ad s.heap.size (ad q) := fun q h => Or.inl ⟨q, h, rfl⟩
  have hA : ∀ q : Nat, s.heap.size ≤ q → AS ad s.heap.size q := fun q h => Or.inr h
  have hAS : ∀ z : Nat, s.heap.size ≤ z → ∀ q : Nat, AS ad z q → AS ad s.heap.size q := fun z h q hq => hq.elim Or.inl (fun g => Or.inr (Nat.le_trans h g))
  generalize hAe : AS ad s.heap.size = A at hAd hA hAS hZ ⊢
  have hS : va_S A s.heap s.heap [] := va_S.rf
  have hl := lv_entry ([.ref (ad 0)]) (n := 1) (Nat.le_of_ble_eq_true rfl)
  rw [lg_entry_eq]
  generalize (lg_sl ([.ref (ad 0)]) ++ List.replicate (1 - (lg_sl ([.ref (ad 0)])).length) Slot.unset).toArray = ls at hl ⊢
  have hl : lv_has ls 1 [(0, .ref (ad 0))] := hl
  have hf := (f_MK_door_s S).symm
  generalize hQ : vx_MQ below _ _ _ s _ _ _ = Q
  refine lv_aload_n hx hb d_MK_door_0 rfl (lv_at hl 0 rfl) ?_
  refine va_get (D := D) (ci := 0) (v := .ref (ad 2)) (C := R_MK) (T := T_MK) (N := 5) hx hb ht i_MK hown hK hP 0 Xa_0 rfl 1 (by decide) (ht _ mF_MK_32) (fun _ h9 => h9) rfl d_MK_door_1 ?_
  refine va_get (D := D) (ci := 2) (v := .int (S.1 2 2)) (C := R_Board) (T := T_Board) (N := 7) hx hb ht i_Board hown hK hP 2 Xa_2 rfl 2 (by decide) (ht _ mF_MK_67) (fun _ h9 => h9) rfl d_MK_door_4 ?_
  refine lv_bipush (v := 6) hx hb d_MK_door_7 (by decide) ?_
  refine lv_icmp_lt (tgt := 22) hx hb d_MK_door_9 (by decide) (fun c1 => ?_) (fun c1 => ?_)
  · rw [if_pos c1] at hf
    refine lv_aload_n hx hb d_MK_door_22 rfl (lv_at hl 0 rfl) ?_
    refine lv_iconst (v := 0) hx hb d_MK_door_23 (by decide) ?_
    refine va_put (D := D) (ci := 0) (v := .int (0 : Int32)) (ty := .boolean) (C := R_MK) (T := T_MK) (N := 5) hx hb ht i_MK t_MK t_MK_ok n_MK hown hK hP (X_D hI hAd) hS 0 Xa_0 rfl 4 (by decide) (ht _ mF_MK_63) (fun _ h9 => h9) rfl (by decide +kernel) rfl rfl (Nat.le_of_ble_eq_true rfl) d_MK_door_24 (fun H locs hP _ hS => ?_)
    replace hP := X_putI (by decide) hP rfl
    refine lv_aload_n hx hb d_MK_door_27 rfl (lv_at hl 0 rfl) ?_
    refine va_get (D := D) (ci := 0) (v := .ref (ad 2)) (C := R_MK) (T := T_MK) (N := 5) hx hb ht i_MK hown hK hP 0 Xa_0 rfl 1 (by decide) (ht _ mF_MK_32) (fun _ h9 => h9) rfl d_MK_door_28 ?_
    refine lv_dup hx hb d_MK_door_31 rfl ?_
    refine va_get (D := D) (ci := 2) (v := .int (S.1 2 2)) (C := R_Board) (T := T_Board) (N := 7) hx hb ht i_Board hown hK hP 2 Xa_2 rfl 2 (by decide) (ht _ mF_MK_67) (fun _ h9 => h9) rfl d_MK_door_32 ?_
    refine lv_iconst (v := 1) hx hb d_MK_door_35 (by decide) ?_
    refine lv_iadd hx hb d_MK_door_36 ?_
    refine va_put (D := D) (ci := 2) (v := .int ((S.1 2 2) + (1 : Int32))) (ty := .int) (C := R_Board) (T := T_Board) (N := 7) hx hb ht i_Board t_Board t_Board_ok n_Board hown hK hP (X_D hI hAd) hS 2 Xa_2 rfl 2 (by decide) (ht _ mF_MK_67) (fun _ h9 => h9) rfl (by decide +kernel) rfl rfl (Nat.le_of_ble_eq_true rfl) d_MK_door_37 (fun H locs hP _ hS => ?_)
    replace hP := X_putI (by decide) hP rfl
    refine lv_aload_n hx hb d_MK_door_40 rfl (lv_at hl 0 rfl) ?_
    refine va_get (D := D) (ci := 0) (v := .ref (ad 2)) (C := R_MK) (T := T_MK) (N := 5) hx hb ht i_MK hown hK hP 0 Xa_0 rfl 1 (by decide) (ht _ mF_MK_32) (fun _ h9 => h9) rfl d_MK_door_41 ?_
    refine va_get (D := D) (ci := 2) (v := .int ((S.1 2 2) + (1 : Int32))) (C := R_Board) (T := T_Board) (N := 7) hx hb ht i_Board hown hK hP 2 Xa_2 rfl 2 (by decide) (ht _ mF_MK_67) (fun _ h9 => h9) rfl d_MK_door_44 ?_
    refine lv_iconst (v := 1) hx hb d_MK_door_47 (by decide) ?_
    refine lv_isub hx hb d_MK_door_48 ?_
    refine W.widen (k := 1) (n := 6) (by decide) (by decide) ?_
    rw [← hQ]
    refine vx_ret ?_
    exact W.iret (v := ((S.1 2 2) + (1 : Int32)) - (1 : Int32)) hx hb hr (fun t ht hW => ⟨⟨((S.1 2 2) + (1 : Int32)) - (1 : Int32), wI (wI S 0 4 (0 : Int32)) 2 2 ((S.1 2 2) + (1 : Int32)), rfl, hf.symm, by rw [ht]; exact hP, va_K.moved hW.alike hK⟩, hS.F ht⟩) hS.2.2 d_MK_door_49
  · rw [if_neg c1] at hf
    obtain ⟨sa, hsa⟩ := hZ.2.2.1 ("MasterKeys", 70, "there are 6 doors") (by decide +kernel)
    rw [← hQ]
    exact vx_throwS hx hb hlt hown (by decide +kernel) (by decide +kernel) (ht _ mK_MK_56) (ht _ mN_ISE) hsa (th_at2 ht hZ.2.2.2.1) th_good2 hZ.1 hZ.2.1 hS (hl.1.trans hml.symm) d_MK_door_12 d_MK_door_15 d_MK_door_16 d_MK_door_18 d_MK_door_21 (fun x hx9 => (hnoex x hx9).elim) (Nat.le_of_ble_eq_true rfl) (Nat.le_of_ble_eq_true rfl) (Nat.le_of_ble_eq_true rfl) (Nat.le_of_ble_eq_true rfl) hlocks (fun t ha hz hk => ⟨2, ⟨hf.symm, rfl⟩, ⟨rfl, hP.kept (fun k9 q9 h9 => hk _ (hP k9 q9 h9).lt), va_K.moved ha hK⟩, ⟨Nat.le_trans hS.1 hz, fun q h1 h2 => (hk q (Nat.lt_of_lt_of_le h1 hS.1)).trans (hS.2.1 q h1 h2)⟩⟩) hS.2.2 (Nat.le_of_ble_eq_true rfl) (Nat.le_of_ble_eq_true rfl)
set_option maxHeartbeats 4000000 in
set_option maxRecDepth 100000 in
theorem c_MK_needKey (l : Launch) (hlt : l.stackTraces = false) (D : va_G) (cA : Nat → ClassId) (ad : Nat → Nat) (hI : InjA ad) (sz : Nat) (a1 : Int32) (S : SS) (hs : f_MK_needKey a1 S ≠ none) : vx_Met l y_MK_needKey w_MK_needKey ({ frames := 6, cells := 1, slots := 6, locals := 90 }) (va_Pc [.ref (ad 0), .int a1] (fun U => U.heap.size = sz ∧ va_P D vwCl (X cA ad S) U.heap ∧ va_K D vwCl (tysX cA) U ∧ ZX (AS ad sz) U)) (va_Qv (fun (_ : Unit) => f_MK_needKey a1 S = some (.inr ())) (fun (_ : Unit) t => va_P D vwCl (X cA ad S) t.heap ∧ va_K D vwCl (tysX cA) t) (AS ad sz)) (vx_X (fun (k : Nat) => f_MK_needKey a1 S = some (.inl k) ∧ (k = 1)) (fun E k t => E = exN k ∧ va_P D vwCl (X cA ad S) t.heap ∧ va_K D vwCl (tysX cA) t) (AS ad sz)) 1 6 (AS ad sz) := by
  refine vx_ofW (cc := b_MK_needKey) (maxL := 2) (ret := none) (by decide) rfl ?_
  intro p e s m args below meth c s₁ B hml hnoex hv
  obtain ⟨rfl, hsz, hP, hK, hZ⟩ := hv
  have hx := B.exec
  have hb := B.bytes
  have hr := B.returns
  have hts := atoms_spec (ws := w_MK_needKey) B.pre
  have ht := fun w h => hts w (List.mem_cons_of_mem _ h)
  have hown : s.vm.findClass R_MK = some m.cls := findClass_of_methodNamed B.named
  have hlocks := B.notSynchronized
  subst hsz
  have hAd : ∀ q, q < NP → AS ad s.heap.size (ad q) := fun q h => Or.inl ⟨q, h, rfl⟩
  have hA : ∀ q : Nat, s.heap.size ≤ q → AS ad s.heap.size q := fun q h => Or.inr h
  have hAS : ∀ z : Nat, s.heap.size ≤ z → ∀ q : Nat, AS ad z q → AS ad s.heap.size q := fun z h q hq => hq.elim Or.inl (fun g => Or.inr (Nat.le_trans h g))
  generalize hAe : AS ad s.heap.size = A at hAd hA hAS hZ ⊢
  have hS : va_S A s.heap s.heap [] := va_S.rf
  have hl := lv_entry ([.ref (ad 0), .int a1]) (n := 2) (Nat.le_of_ble_eq_true rfl)
  rw [lg_entry_eq]
  generalize (lg_sl ([.ref (ad 0), .int a1]) ++ List.replicate (2 - (lg_sl ([.ref (ad 0), .int a1])).length) Slot.unset).toArray = ls at hl ⊢
  have hl : lv_has ls 2 [(0, .ref (ad 0)), (1, .int a1)] := hl
  have hf := (f_MK_needKey_s a1 S).symm
  generalize hQ : vx_MQ below _ _ _ s _ _ _ = Q
  refine lv_iload_n hx hb d_MK_needKey_0 rfl (lv_at hl 1 rfl) ?_
  refine lv_if_lt (tgt := 15) hx hb d_MK_needKey_1 (by decide) (fun c1 => ?_) (fun c1 => ?_)
  · rw [if_pos c1] at hf
    obtain ⟨sa, hsa⟩ := hZ.2.2.1 ("MasterKeys", 162, "there is no such key") (by decide +kernel)
    rw [← hQ]
    exact vx_throwS hx hb hlt hown (by decide +kernel) (by decide +kernel) (ht _ mK_MK_87) (ht _ mN_IAE) hsa (th_at1 ht hZ.2.2.2.1) th_good1 hZ.1 hZ.2.1 hS (hl.1.trans hml.symm) d_MK_needKey_15 d_MK_needKey_18 d_MK_needKey_19 d_MK_needKey_21 d_MK_needKey_24 (fun x hx9 => (hnoex x hx9).elim) (Nat.le_of_ble_eq_true rfl) (Nat.le_of_ble_eq_true rfl) (Nat.le_of_ble_eq_true rfl) (Nat.le_of_ble_eq_true rfl) hlocks (fun t ha hz hk => ⟨1, ⟨hf.symm, rfl⟩, ⟨rfl, hP.kept (fun k9 q9 h9 => hk _ (hP k9 q9 h9).lt), va_K.moved ha hK⟩, ⟨Nat.le_trans hS.1 hz, fun q h1 h2 => (hk q (Nat.lt_of_lt_of_le h1 hS.1)).trans (hS.2.1 q h1 h2)⟩⟩) hS.2.2 (Nat.le_of_ble_eq_true rfl) (Nat.le_of_ble_eq_true rfl)
  · rw [if_neg c1] at hf
    refine lv_iload_n hx hb d_MK_needKey_4 rfl (lv_at hl 1 rfl) ?_
    refine lv_aload_n hx hb d_MK_needKey_5 rfl (lv_at hl 0 rfl) ?_
    refine va_get (D := D) (ci := 0) (v := .ref (ad 2)) (C := R_MK) (T := T_MK) (N := 5) hx hb ht i_MK hown hK hP 0 Xa_0 rfl 1 (by decide) (ht _ mF_MK_32) (fun _ h9 => h9) rfl d_MK_needKey_6 ?_
    refine va_get (D := D) (ci := 2) (v := .int (S.1 2 1)) (C := R_Board) (T := T_Board) (N := 7) hx hb ht i_Board hown hK hP 2 Xa_2 rfl 1 (by decide) (ht _ mF_MK_52) (fun _ h9 => h9) rfl d_MK_needKey_9 ?_
    refine lv_icmp_lt (tgt := 25) hx hb d_MK_needKey_12 (by decide) (fun c2 => ?_) (fun c2 => ?_)
    · rw [if_pos c2] at hf
      refine W.widen (k := 1) (n := 6) (by decide) (by decide) ?_
      rw [← hQ]
      refine vx_ret ?_
      exact W.vret hx hb hr (fun t ht hW => ⟨⟨(), rfl, hf.symm, by rw [ht]; exact hP, va_K.moved hW.alike hK⟩, hS.F ht⟩) hS.2.2 d_MK_needKey_25
    · rw [if_neg c2] at hf
      obtain ⟨sa, hsa⟩ := hZ.2.2.1 ("MasterKeys", 162, "there is no such key") (by decide +kernel)
      rw [← hQ]
      exact vx_throwS hx hb hlt hown (by decide +kernel) (by decide +kernel) (ht _ mK_MK_87) (ht _ mN_IAE) hsa (th_at1 ht hZ.2.2.2.1) th_good1 hZ.1 hZ.2.1 hS (hl.1.trans hml.symm) d_MK_needKey_15 d_MK_needKey_18 d_MK_needKey_19 d_MK_needKey_21 d_MK_needKey_24 (fun x hx9 => (hnoex x hx9).elim) (Nat.le_of_ble_eq_true rfl) (Nat.le_of_ble_eq_true rfl) (Nat.le_of_ble_eq_true rfl) (Nat.le_of_ble_eq_true rfl) hlocks (fun t ha hz hk => ⟨1, ⟨hf.symm, rfl⟩, ⟨rfl, hP.kept (fun k9 q9 h9 => hk _ (hP k9 q9 h9).lt), va_K.moved ha hK⟩, ⟨Nat.le_trans hS.1 hz, fun q h1 h2 => (hk q (Nat.lt_of_lt_of_le h1 hS.1)).trans (hS.2.1 q h1 h2)⟩⟩) hS.2.2 (Nat.le_of_ble_eq_true rfl) (Nat.le_of_ble_eq_true rfl)
set_option maxHeartbeats 4000000 in
set_option maxRecDepth 100000 in
theorem c_MK_needDoor (l : Launch) (hlt : l.stackTraces = false) (D : va_G) (cA : Nat → ClassId) (ad : Nat → Nat) (hI : InjA ad) (sz : Nat) (a1 : Int32) (S : SS) (hs : f_MK_needDoor a1 S ≠ none) : vx_Met l y_MK_needDoor w_MK_needDoor ({ frames := 6, cells := 1, slots := 6, locals := 90 }) (va_Pc [.ref (ad 0), .int a1] (fun U => U.heap.size = sz ∧ va_P D vwCl (X cA ad S) U.heap ∧ va_K D vwCl (tysX cA) U ∧ ZX (AS ad sz) U)) (va_Qv (fun (_ : Unit) => f_MK_needDoor a1 S = some (.inr ())) (fun (_ : Unit) t => va_P D vwCl (X cA ad S) t.heap ∧ va_K D vwCl (tysX cA) t) (AS ad sz)) (vx_X (fun (k : Nat) => f_MK_needDoor a1 S = some (.inl k) ∧ (k = 1)) (fun E k t => E = exN k ∧ va_P D vwCl (X cA ad S) t.heap ∧ va_K D vwCl (tysX cA) t) (AS ad sz)) 1 6 (AS ad sz) := by
  refine vx_ofW (cc := b_MK_needDoor) (maxL := 2) (ret := none) (by decide) rfl ?_
  intro p e s m args below meth c s₁ B hml hnoex hv
  obtain ⟨rfl, hsz, hP, hK, hZ⟩ := hv
  have hx := B.exec
  have hb := B.bytes
  have hr := B.returns
  have hts := atoms_spec (ws := w_MK_needDoor) B.pre
  have ht := fun w h => hts w (List.mem_cons_of_mem _ h)
  have hown : s.vm.findClass R_MK = some m.cls := findClass_of_methodNamed B.named
  have hlocks := B.notSynchronized
  subst hsz
  have hAd : ∀ q, q < NP → AS ad s.heap.size (ad q) := fun q h => Or.inl ⟨q, h, rfl⟩
  have hA : ∀ q : Nat, s.heap.size ≤ q → AS ad s.heap.size q := fun q h => Or.inr h
  have hAS : ∀ z : Nat, s.heap.size ≤ z → ∀ q : Nat, AS ad z q → AS ad s.heap.size q := fun z h q hq => hq.elim Or.inl (fun g => Or.inr (Nat.le_trans h g))
  generalize hAe : AS ad s.heap.size = A at hAd hA hAS hZ ⊢
  have hS : va_S A s.heap s.heap [] := va_S.rf
  have hl := lv_entry ([.ref (ad 0), .int a1]) (n := 2) (Nat.le_of_ble_eq_true rfl)
  rw [lg_entry_eq]
  generalize (lg_sl ([.ref (ad 0), .int a1]) ++ List.replicate (2 - (lg_sl ([.ref (ad 0), .int a1])).length) Slot.unset).toArray = ls at hl ⊢
  have hl : lv_has ls 2 [(0, .ref (ad 0)), (1, .int a1)] := hl
  have hf := (f_MK_needDoor_s a1 S).symm
  generalize hQ : vx_MQ below _ _ _ s _ _ _ = Q
  refine lv_iload_n hx hb d_MK_needDoor_0 rfl (lv_at hl 1 rfl) ?_
  refine lv_if_lt (tgt := 15) hx hb d_MK_needDoor_1 (by decide) (fun c1 => ?_) (fun c1 => ?_)
  · rw [if_pos c1] at hf
    obtain ⟨sa, hsa⟩ := hZ.2.2.1 ("MasterKeys", 164, "there is no such door") (by decide +kernel)
    rw [← hQ]
    exact vx_throwS hx hb hlt hown (by decide +kernel) (by decide +kernel) (ht _ mK_MK_87) (ht _ mN_IAE) hsa (th_at1 ht hZ.2.2.2.1) th_good1 hZ.1 hZ.2.1 hS (hl.1.trans hml.symm) d_MK_needDoor_15 d_MK_needDoor_18 d_MK_needDoor_19 d_MK_needDoor_21 d_MK_needDoor_24 (fun x hx9 => (hnoex x hx9).elim) (Nat.le_of_ble_eq_true rfl) (Nat.le_of_ble_eq_true rfl) (Nat.le_of_ble_eq_true rfl) (Nat.le_of_ble_eq_true rfl) hlocks (fun t ha hz hk => ⟨1, ⟨hf.symm, rfl⟩, ⟨rfl, hP.kept (fun k9 q9 h9 => hk _ (hP k9 q9 h9).lt), va_K.moved ha hK⟩, ⟨Nat.le_trans hS.1 hz, fun q h1 h2 => (hk q (Nat.lt_of_lt_of_le h1 hS.1)).trans (hS.2.1 q h1 h2)⟩⟩) hS.2.2 (Nat.le_of_ble_eq_true rfl) (Nat.le_of_ble_eq_true rfl)
  · rw [if_neg c1] at hf
    refine lv_iload_n hx hb d_MK_needDoor_4 rfl (lv_at hl 1 rfl) ?_
    refine lv_aload_n hx hb d_MK_needDoor_5 rfl (lv_at hl 0 rfl) ?_
    refine va_get (D := D) (ci := 0) (v := .ref (ad 2)) (C := R_MK) (T := T_MK) (N := 5) hx hb ht i_MK hown hK hP 0 Xa_0 rfl 1 (by decide) (ht _ mF_MK_32) (fun _ h9 => h9) rfl d_MK_needDoor_6 ?_
    refine va_get (D := D) (ci := 2) (v := .int (S.1 2 2)) (C := R_Board) (T := T_Board) (N := 7) hx hb ht i_Board hown hK hP 2 Xa_2 rfl 2 (by decide) (ht _ mF_MK_67) (fun _ h9 => h9) rfl d_MK_needDoor_9 ?_
    refine lv_icmp_lt (tgt := 25) hx hb d_MK_needDoor_12 (by decide) (fun c2 => ?_) (fun c2 => ?_)
    · rw [if_pos c2] at hf
      refine W.widen (k := 1) (n := 6) (by decide) (by decide) ?_
      rw [← hQ]
      refine vx_ret ?_
      exact W.vret hx hb hr (fun t ht hW => ⟨⟨(), rfl, hf.symm, by rw [ht]; exact hP, va_K.moved hW.alike hK⟩, hS.F ht⟩) hS.2.2 d_MK_needDoor_25
    · rw [if_neg c2] at hf
      obtain ⟨sa, hsa⟩ := hZ.2.2.1 ("MasterKeys", 164, "there is no such door") (by decide +kernel)
      rw [← hQ]
      exact vx_throwS hx hb hlt hown (by decide +kernel) (by decide +kernel) (ht _ mK_MK_87) (ht _ mN_IAE) hsa (th_at1 ht hZ.2.2.2.1) th_good1 hZ.1 hZ.2.1 hS (hl.1.trans hml.symm) d_MK_needDoor_15 d_MK_needDoor_18 d_MK_needDoor_19 d_MK_needDoor_21 d_MK_needDoor_24 (fun x hx9 => (hnoex x hx9).elim) (Nat.le_of_ble_eq_true rfl) (Nat.le_of_ble_eq_true rfl) (Nat.le_of_ble_eq_true rfl) (Nat.le_of_ble_eq_true rfl) hlocks (fun t ha hz hk => ⟨1, ⟨hf.symm, rfl⟩, ⟨rfl, hP.kept (fun k9 q9 h9 => hk _ (hP k9 q9 h9).lt), va_K.moved ha hK⟩, ⟨Nat.le_trans hS.1 hz, fun q h1 h2 => (hk q (Nat.lt_of_lt_of_le h1 hS.1)).trans (hS.2.1 q h1 h2)⟩⟩) hS.2.2 (Nat.le_of_ble_eq_true rfl) (Nat.le_of_ble_eq_true rfl)
set_option maxHeartbeats 4000000 in
set_option maxRecDepth 100000 in
theorem c_MK_must (l : Launch) (hlt : l.stackTraces = false) (D : va_G) (cA : Nat → ClassId) (ad : Nat → Nat) (hI : InjA ad) (sz : Nat) (a1 : Int32) (a2 : Int32) (a3 : Int32) (S : SS) (hs : f_MK_must a1 a2 a3 S ≠ none) : vx_Met l y_MK_must w_MK_must ({ frames := 7, cells := 2, slots := 12, locals := 111 }) (va_Pc [.ref (ad 0), .int a1, .int a2, .int a3] (fun U => U.heap.size = sz ∧ va_P D vwCl (X cA ad S) U.heap ∧ va_K D vwCl (tysX cA) U ∧ ZX (AS ad sz) U)) (va_Qi (fun (r : Int32) (u : SS) => f_MK_must a1 a2 a3 S = some (.inr (r, u)) ∧ (r = 0 ∨ r = 1)) (fun (u : SS) t => va_P D vwCl (X cA ad u) t.heap ∧ va_K D vwCl (tysX cA) t) (AS ad sz)) (vx_X (fun (k : Nat) => f_MK_must a1 a2 a3 S = some (.inl k) ∧ (k = 1)) (fun E k t => E = exN k ∧ va_P D vwCl (X cA ad S) t.heap ∧ va_K D vwCl (tysX cA) t) (AS ad sz)) 2 12 (AS ad sz) := by
  refine vx_ofW (cc := b_MK_must) (maxL := 5) (ret := (some .boolean)) (by decide) rfl ?_
  intro p e s m args below meth c s₁ B hml hnoex hv
  obtain ⟨rfl, hsz, hP, hK, hZ⟩ := hv
  have hx := B.exec
  have hb := B.bytes
  have hr := B.returns
  have hts := atoms_spec (ws := w_MK_must) B.pre
  have ht := fun w h => hts w (List.mem_cons_of_mem _ h)
  have hown : s.vm.findClass R_MK = some m.cls := findClass_of_methodNamed B.named
  have hlocks := B.notSynchronized
  subst hsz
  have hAd : ∀ q, q < NP → AS ad s.heap.size (ad q) := fun q h => Or.inl ⟨q, h, rfl⟩
  have hA : ∀ q : Nat, s.heap.size ≤ q → AS ad s.heap.size q := fun q h => Or.inr h
  have hAS : ∀ z : Nat, s.heap.size ≤ z → ∀ q : Nat, AS ad z q → AS ad s.heap.size q := fun z h q hq => hq.elim Or.inl (fun g => Or.inr (Nat.le_trans h g))
  generalize hAe : AS ad s.heap.size = A at hAd hA hAS hZ ⊢
  have hS : va_S A s.heap s.heap [] := va_S.rf
  have hl := lv_entry ([.ref (ad 0), .int a1, .int a2, .int a3]) (n := 5) (Nat.le_of_ble_eq_true rfl)
  rw [lg_entry_eq]
  generalize (lg_sl ([.ref (ad 0), .int a1, .int a2, .int a3]) ++ List.replicate (5 - (lg_sl ([.ref (ad 0), .int a1, .int a2, .int a3])).length) Slot.unset).toArray = ls at hl ⊢
  have hl : lv_has ls 5 [(0, .ref (ad 0)), (1, .int a1), (2, .int a2), (3, .int a3)] := hl
  have hf := (f_MK_must_s a1 a2 a3 S).symm
  generalize hQ : vx_MQ below _ _ _ s _ _ _ = Q
  refine lv_aload_n hx hb d_MK_must_0 rfl (lv_at hl 0 rfl) ?_
  refine lv_iload_n hx hb d_MK_must_1 rfl (lv_at hl 1 rfl) ?_
  refine vx_callv (vx_runV (As := [.int a1]) (rest := []) ⟨hx, hb, hml, hown, ht⟩ (c_MK_needKey l hlt D cA ad hI s.heap.size a1 S (fun hn => hs (by rw [hn] at hf; exact hf.symm))) (cwV 1 ht (good_G (gV mM_MK_72 mI_MK_needKey mV_MK_needKey mN_MK mk_MK_needKey)) rfl rfl rfl (by decide +kernel) ⟨Nat.le_of_ble_eq_true rfl, Nat.le_of_ble_eq_true rfl⟩) ⟨fun a U g mk q => ⟨q.1, q.2.1, q.2.2.1, va_K.moved (u := U) (U := U.calling g mk a) (Vm.Alike.refl U.vm) q.2.2.2.1, ZX.call q.2.2.2.2⟩, va_recv hK hP (ci := 0) (q0 := 0) rfl Xa_0, fun U hU hW => ⟨rfl, by rw [hU], by rw [hU]; exact hP, va_K.moved hW.alike hK, hZ.to hS (hAS _ hS.1) hU hW⟩⟩ rfl rfl hl.1 rfl (lv_room (Nat.le_of_ble_eq_true rfl)) d_MK_must_2 ⟨Nat.le_of_ble_eq_true rfl, Nat.le_of_ble_eq_true rfl⟩) hS (fun q _ h => hAS _ hS.1 q h) (fun q h => hAS _ hS.1 q h) (fun q _ h => hAS _ hS.1 q h) (fun E ce q9 kx tx H locs ht9 hvm9 hw9 hB9 hz9 hk9 hS hce hcv hcl => ?_) (fun _ t H locs ht9 hvm hw hB hz1 hk1 hS => ?_)
  · obtain ⟨hE9, hP, hK9⟩ := hB9
    rw [ht9] at hP
    obtain ⟨hw9, hk9⟩ := hw9
    rw [hw9, Option.bind_some, Sum.elim_inl] at hf
    rw [← hQ]
    exact vx_out (E := E) (fun x hx9 => (hnoex x hx9).elim) hlocks hce hcv hcl (fun t ht ha => ⟨kx, ⟨hf.symm, hk9⟩, ⟨hE9, by rw [ht]; exact hP, va_K.moved ha hK⟩, hS.F ht⟩) hS.2.2 (Nat.le_of_ble_eq_true rfl) (Nat.le_of_ble_eq_true rfl)
  obtain ⟨hP, hK9⟩ := hB
  rw [ht9] at hP
  rw [hw, Option.bind_some, Sum.elim_inr] at hf
  refine lv_aload_n hx hb d_MK_must_5 rfl (lv_at hl 0 rfl) ?_
  refine lv_iload_n hx hb d_MK_must_6 rfl (lv_at hl 2 rfl) ?_
  refine vx_callv (vx_runV (As := [.int a2]) (rest := []) ⟨hx, hb, hml, hown, ht⟩ (c_MK_needDoor l hlt D cA ad hI H.size a2 S (fun hn => hs (by rw [hn] at hf; exact hf.symm))) (cwV 1 ht (good_G (gV mM_MK_76 mI_MK_needDoor mV_MK_needDoor mN_MK mk_MK_needDoor)) rfl rfl rfl (by decide +kernel) ⟨Nat.le_of_ble_eq_true rfl, Nat.le_of_ble_eq_true rfl⟩) ⟨fun a U g mk q => ⟨q.1, q.2.1, q.2.2.1, va_K.moved (u := U) (U := U.calling g mk a) (Vm.Alike.refl U.vm) q.2.2.2.1, ZX.call q.2.2.2.2⟩, va_recv hK hP (ci := 0) (q0 := 0) rfl Xa_0, fun U hU hW => ⟨rfl, by rw [hU], by rw [hU]; exact hP, va_K.moved hW.alike hK, hZ.to hS (hAS _ hS.1) hU hW⟩⟩ rfl rfl hl.1 rfl (lv_room (Nat.le_of_ble_eq_true rfl)) d_MK_must_7 ⟨Nat.le_of_ble_eq_true rfl, Nat.le_of_ble_eq_true rfl⟩) hS (fun q _ h => hAS _ hS.1 q h) (fun q h => hAS _ hS.1 q h) (fun q _ h => hAS _ hS.1 q h) (fun E ce q9 kx tx H locs ht9 hvm9 hw9 hB9 hz9 hk9 hS hce hcv hcl => ?_) (fun _ t H locs ht9 hvm hw hB hz1 hk1 hS => ?_)
  · obtain ⟨hE9, hP, hK9⟩ := hB9
    rw [ht9] at hP
    obtain ⟨hw9, hk9⟩ := hw9
    rw [hw9, Option.bind_some, Sum.elim_inl] at hf
    rw [← hQ]
    exact vx_out (E := E) (fun x hx9 => (hnoex x hx9).elim) hlocks hce hcv hcl (fun t ht ha => ⟨kx, ⟨hf.symm, hk9⟩, ⟨hE9, by rw [ht]; exact hP, va_K.moved ha hK⟩, hS.F ht⟩) hS.2.2 (Nat.le_of_ble_eq_true rfl) (Nat.le_of_ble_eq_true rfl)
  obtain ⟨hP, hK9⟩ := hB
  rw [ht9] at hP
  rw [hw, Option.bind_some, Sum.elim_inr] at hf
  refine lv_aload_n hx hb d_MK_must_10 rfl (lv_at hl 0 rfl) ?_
  refine lv_iconst (v := 0) hx hb d_MK_must_11 (by decide) ?_
  refine va_put (D := D) (ci := 0) (v := .int (0 : Int32)) (ty := .boolean) (C := R_MK) (T := T_MK) (N := 5) hx hb ht i_MK t_MK t_MK_ok n_MK hown hK hP (X_D hI hAd) hS 0 Xa_0 rfl 4 (by decide) (ht _ mF_MK_63) (fun _ h9 => h9) rfl (by decide +kernel) rfl rfl (Nat.le_of_ble_eq_true rfl) d_MK_must_12 (fun H locs hP _ hS => ?_)
  replace hP := X_putI (by decide) hP rfl
  refine lv_aload_n hx hb d_MK_must_15 rfl (lv_at hl 0 rfl) ?_
  refine va_get (D := D) (ci := 0) (v := .ref (ad 2)) (C := R_MK) (T := T_MK) (N := 5) hx hb ht i_MK hown hK hP 0 Xa_0 rfl 1 (by decide) (ht _ mF_MK_32) (fun _ h9 => h9) rfl d_MK_must_16 ?_
  refine lv_iload_n hx hb d_MK_must_19 rfl (lv_at hl 1 rfl) ?_
  refine lv_iload_n hx hb d_MK_must_20 rfl (lv_at hl 2 rfl) ?_
  refine va_calli (va_runV (As := [.int a1, .int a2]) (rest := []) ⟨hx, hb, hml, hown, ht⟩ (c_Board_mustOpen l D cA ad hI H.size a1 a2 (wI S 0 4 (0 : Int32)) (fun hn => hs (by rw [hn] at hf; exact hf.symm))) (cwV 2 ht (good_G (gV mM_MK_79 mI_Board_mustOpen mV_Board_mustOpen mN_Board mk_Board_mustOpen)) rfl rfl rfl (by decide +kernel) ⟨Nat.le_of_ble_eq_true rfl, Nat.le_of_ble_eq_true rfl⟩) ⟨fun a U g mk q => ⟨q.1, q.2.1, q.2.2.1, va_K.moved (u := U) (U := U.calling g mk a) (Vm.Alike.refl U.vm) q.2.2.2⟩, va_recv hK hP (ci := 2) (q0 := 2) rfl Xa_2, fun U hU hW => ⟨rfl, by rw [hU], by rw [hU]; exact hP, va_K.moved hW.alike hK⟩⟩ rfl rfl hl.1 rfl (lv_room (Nat.le_of_ble_eq_true rfl)) d_MK_must_21 ⟨Nat.le_of_ble_eq_true rfl, Nat.le_of_ble_eq_true rfl⟩) hS (fun q _ h => hAS _ hS.1 q h) (fun q h => hAS _ hS.1 q h) (fun r3 _ t H locs ht9 hvm hw hB hz1 hk1 hS => ?_)
  obtain ⟨hP, hK9⟩ := hB
  rw [ht9] at hP
  obtain ⟨hw, hz3⟩ := hw
  rw [hw, Option.bind_some] at hf
  refine lv_istore (lv' := [(4, .int r3), (0, .ref (ad 0)), (1, .int a1), (2, .int a2), (3, .int a3)]) hx hb d_MK_must_24 hl (by decide) rfl (fun ls hl => ?_)
  refine lv_aload_n hx hb d_MK_must_26 rfl (lv_at hl 1 rfl) ?_
  refine va_get (D := D) (ci := 0) (v := .ref (ad 2)) (C := R_MK) (T := T_MK) (N := 5) hx hb ht i_MK hown hK hP 0 Xa_0 rfl 1 (by decide) (ht _ mF_MK_32) (fun _ h9 => h9) rfl d_MK_must_27 ?_
  refine lv_iload_n hx hb d_MK_must_30 rfl (lv_at hl 2 rfl) ?_
  refine lv_iload_n hx hb d_MK_must_31 rfl (lv_at hl 3 rfl) ?_
  refine lv_iload_n hx hb d_MK_must_32 rfl (lv_at hl 4 rfl) ?_
  refine va_callv (va_runV (As := [.int a1, .int a2, .int a3]) (rest := []) ⟨hx, hb, hml, hown, ht⟩ (c_Board_tell l D cA ad hI H.size a1 a2 a3 (wI S 0 4 (0 : Int32)) (fun hn => hs (by rw [hn] at hf; exact hf.symm))) (cwV 3 ht (good_G (gV mM_MK_83 mI_Board_tell mV_Board_tell mN_Board mk_Board_tell)) rfl rfl rfl (by decide +kernel) ⟨Nat.le_of_ble_eq_true rfl, Nat.le_of_ble_eq_true rfl⟩) ⟨fun a U g mk q => ⟨q.1, q.2.1, q.2.2.1, va_K.moved (u := U) (U := U.calling g mk a) (Vm.Alike.refl U.vm) q.2.2.2⟩, va_recv hK hP (ci := 2) (q0 := 2) rfl Xa_2, fun U hU hW => ⟨rfl, by rw [hU], by rw [hU]; exact hP, va_K.moved hW.alike hK⟩⟩ rfl rfl hl.1 rfl (lv_room (Nat.le_of_ble_eq_true rfl)) d_MK_must_33 ⟨Nat.le_of_ble_eq_true rfl, Nat.le_of_ble_eq_true rfl⟩) hS (fun q _ h => hAS _ hS.1 q h) (fun q h => hAS _ hS.1 q h) (fun u4 t H locs ht9 hvm hw hB hz1 hk1 hS => ?_)
  obtain ⟨hP, hK9⟩ := hB
  rw [ht9] at hP
  rw [hw, Option.bind_some] at hf
  refine lv_iload hx hb d_MK_must_36 (lv_at hl 0 rfl) ?_
  by_cases hz : r3 = 0 ∨ r3 = 1
  case neg => rw [if_neg hz] at hf; exact absurd hf.symm hs
  rw [if_pos hz] at hf
  rw [← hQ]
  refine vx_ret ?_
  exact W.zret (v := r3) hx hb hr (zb_n hz) (fun t ht hW => ⟨⟨r3, u4, rfl, ⟨hf.symm, hz⟩, by rw [ht]; exact hP, va_K.moved hW.alike hK⟩, hS.F ht⟩) hS.2.2 d_MK_must_38
set_option maxHeartbeats 4000000 in
set_option maxRecDepth 100000 in
theorem c_MK_step (l : Launch) (hlt : l.stackTraces = false) (D : va_G) (cA : Nat → ClassId) (ad : Nat → Nat) (hI : InjA ad) (sz : Nat) (a1 : Int32) (S : SS) (hs : f_MK_step a1 S ≠ none) : vx_Met l y_MK_step w_MK_step ({ frames := 6, cells := 1, slots := 6, locals := 90 }) (va_Pc [.ref (ad 0), .int a1] (fun U => U.heap.size = sz ∧ va_P D vwCl (X cA ad S) U.heap ∧ va_K D vwCl (tysX cA) U ∧ ZX (AS ad sz) U)) (va_Qi (fun (r : Int32) (u : SS) => f_MK_step a1 S = some (.inr (r, u))) (fun (u : SS) t => va_P D vwCl (X cA ad u) t.heap ∧ va_K D vwCl (tysX cA) t) (AS ad sz)) (vx_X (fun (k : Nat) => f_MK_step a1 S = some (.inl k) ∧ (k = 1)) (fun E k t => E = exN k ∧ va_P D vwCl (X cA ad S) t.heap ∧ va_K D vwCl (tysX cA) t) (AS ad sz)) 1 6 (AS ad sz) := by
  refine vx_ofW (cc := b_MK_step) (maxL := 3) (ret := (some .int)) (by decide) rfl ?_
  intro p e s m args below meth c s₁ B hml hnoex hv
  obtain ⟨rfl, hsz, hP, hK, hZ⟩ := hv
  have hx := B.exec
  have hb := B.bytes
  have hr := B.returns
  have hts := atoms_spec (ws := w_MK_step) B.pre
  have ht := fun w h => hts w (List.mem_cons_of_mem _ h)
  have hown : s.vm.findClass R_MK = some m.cls := findClass_of_methodNamed B.named
  have hlocks := B.notSynchronized
  subst hsz
  have hAd : ∀ q, q < NP → AS ad s.heap.size (ad q) := fun q h => Or.inl ⟨q, h, rfl⟩
  have hA : ∀ q : Nat, s.heap.size ≤ q → AS ad s.heap.size q := fun q h => Or.inr h
  have hAS : ∀ z : Nat, s.heap.size ≤ z → ∀ q : Nat, AS ad z q → AS ad s.heap.size q := fun z h q hq => hq.elim Or.inl (fun g => Or.inr (Nat.le_trans h g))
  generalize hAe : AS ad s.heap.size = A at hAd hA hAS hZ ⊢
  have hS : va_S A s.heap s.heap [] := va_S.rf
  have hl := lv_entry ([.ref (ad 0), .int a1]) (n := 3) (Nat.le_of_ble_eq_true rfl)
  rw [lg_entry_eq]
  generalize (lg_sl ([.ref (ad 0), .int a1]) ++ List.replicate (3 - (lg_sl ([.ref (ad 0), .int a1])).length) Slot.unset).toArray = ls at hl ⊢
  have hl : lv_has ls 3 [(0, .ref (ad 0)), (1, .int a1)] := hl
  have hf := (f_MK_step_s a1 S).symm
  generalize hQ : vx_MQ below _ _ _ s _ _ _ = Q
  refine lv_iload_n hx hb d_MK_step_0 rfl (lv_at hl 1 rfl) ?_
  refine lv_if_lt (tgt := 10) hx hb d_MK_step_1 (by decide) (fun c1 => ?_) (fun c1 => ?_)
  · rw [if_pos c1] at hf
    obtain ⟨sa, hsa⟩ := hZ.2.2.1 ("MasterKeys", 89, "STEP is 0 .. 7") (by decide +kernel)
    rw [← hQ]
    exact vx_throwS hx hb hlt hown (by decide +kernel) (by decide +kernel) (ht _ mK_MK_87) (ht _ mN_IAE) hsa (th_at1 ht hZ.2.2.2.1) th_good1 hZ.1 hZ.2.1 hS (hl.1.trans hml.symm) d_MK_step_10 d_MK_step_13 d_MK_step_14 d_MK_step_16 d_MK_step_19 (fun x hx9 => (hnoex x hx9).elim) (Nat.le_of_ble_eq_true rfl) (Nat.le_of_ble_eq_true rfl) (Nat.le_of_ble_eq_true rfl) (Nat.le_of_ble_eq_true rfl) hlocks (fun t ha hz hk => ⟨1, ⟨hf.symm, rfl⟩, ⟨rfl, hP.kept (fun k9 q9 h9 => hk _ (hP k9 q9 h9).lt), va_K.moved ha hK⟩, ⟨Nat.le_trans hS.1 hz, fun q h1 h2 => (hk q (Nat.lt_of_lt_of_le h1 hS.1)).trans (hS.2.1 q h1 h2)⟩⟩) hS.2.2 (Nat.le_of_ble_eq_true rfl) (Nat.le_of_ble_eq_true rfl)
  · rw [if_neg c1] at hf
    refine lv_iload_n hx hb d_MK_step_4 rfl (lv_at hl 1 rfl) ?_
    refine lv_bipush (v := 7) hx hb d_MK_step_5 (by decide) ?_
    refine lv_icmp_le (tgt := 20) hx hb d_MK_step_7 (by decide) (fun c2 => ?_) (fun c2 => ?_)
    · rw [if_pos c2] at hf
      refine lv_aload_n hx hb d_MK_step_20 rfl (lv_at hl 0 rfl) ?_
      refine lv_iconst (v := 0) hx hb d_MK_step_21 (by decide) ?_
      refine va_put (D := D) (ci := 0) (v := .int (0 : Int32)) (ty := .boolean) (C := R_MK) (T := T_MK) (N := 5) hx hb ht i_MK t_MK t_MK_ok n_MK hown hK hP (X_D hI hAd) hS 0 Xa_0 rfl 4 (by decide) (ht _ mF_MK_63) (fun _ h9 => h9) rfl (by decide +kernel) rfl rfl (Nat.le_of_ble_eq_true rfl) d_MK_step_22 (fun H locs hP _ hS => ?_)
      replace hP := X_putI (by decide) hP rfl
      refine lv_aload_n hx hb d_MK_step_25 rfl (lv_at hl 0 rfl) ?_
      refine va_get (D := D) (ci := 0) (v := .ref (ad 1)) (C := R_MK) (T := T_MK) (N := 5) hx hb ht i_MK hown hK hP 0 Xa_0 rfl 0 (by decide) (ht _ mF_MK_23) (fun _ h9 => h9) rfl d_MK_step_26 ?_
      refine va_get (D := D) (ci := 1) (v := .int (S.1 1 2)) (C := R_Law) (T := T_Law) (N := 5) hx hb ht i_Law hown hK hP 1 Xa_1 rfl 2 (by decide) (ht _ mF_MK_92) (fun _ h9 => h9) rfl d_MK_step_29 ?_
      refine lv_istore_n (lv' := [(2, .int (S.1 1 2)), (0, .ref (ad 0)), (1, .int a1)]) hx hb d_MK_step_32 rfl hl (by decide) rfl (fun ls hl => ?_)
      refine lv_aload_n hx hb d_MK_step_33 rfl (lv_at hl 1 rfl) ?_
      refine va_get (D := D) (ci := 0) (v := .ref (ad 1)) (C := R_MK) (T := T_MK) (N := 5) hx hb ht i_MK hown hK hP 0 Xa_0 rfl 0 (by decide) (ht _ mF_MK_23) (fun _ h9 => h9) rfl d_MK_step_34 ?_
      refine lv_iload_n hx hb d_MK_step_37 rfl (lv_at hl 2 rfl) ?_
      refine va_put (D := D) (ci := 1) (v := .int a1) (ty := .int) (C := R_Law) (T := T_Law) (N := 5) hx hb ht i_Law t_Law t_Law_ok n_Law hown hK hP (X_D hI hAd) hS 1 Xa_1 rfl 2 (by decide) (ht _ mF_MK_92) (fun _ h9 => h9) rfl (by decide +kernel) rfl rfl (Nat.le_of_ble_eq_true rfl) d_MK_step_38 (fun H locs hP _ hS => ?_)
      replace hP := X_putI (by decide) hP rfl
      refine lv_iload_n hx hb d_MK_step_41 rfl (lv_at hl 0 rfl) ?_
      refine W.widen (k := 1) (n := 6) (by decide) (by decide) ?_
      rw [← hQ]
      refine vx_ret ?_
      exact W.iret (v := S.1 1 2) hx hb hr (fun t ht hW => ⟨⟨S.1 1 2, wI (wI S 0 4 (0 : Int32)) 1 2 a1, rfl, hf.symm, by rw [ht]; exact hP, va_K.moved hW.alike hK⟩, hS.F ht⟩) hS.2.2 d_MK_step_42
    · rw [if_neg c2] at hf
      obtain ⟨sa, hsa⟩ := hZ.2.2.1 ("MasterKeys", 89, "STEP is 0 .. 7") (by decide +kernel)
      rw [← hQ]
      exact vx_throwS hx hb hlt hown (by decide +kernel) (by decide +kernel) (ht _ mK_MK_87) (ht _ mN_IAE) hsa (th_at1 ht hZ.2.2.2.1) th_good1 hZ.1 hZ.2.1 hS (hl.1.trans hml.symm) d_MK_step_10 d_MK_step_13 d_MK_step_14 d_MK_step_16 d_MK_step_19 (fun x hx9 => (hnoex x hx9).elim) (Nat.le_of_ble_eq_true rfl) (Nat.le_of_ble_eq_true rfl) (Nat.le_of_ble_eq_true rfl) (Nat.le_of_ble_eq_true rfl) hlocks (fun t ha hz hk => ⟨1, ⟨hf.symm, rfl⟩, ⟨rfl, hP.kept (fun k9 q9 h9 => hk _ (hP k9 q9 h9).lt), va_K.moved ha hK⟩, ⟨Nat.le_trans hS.1 hz, fun q h1 h2 => (hk q (Nat.lt_of_lt_of_le h1 hS.1)).trans (hS.2.1 q h1 h2)⟩⟩) hS.2.2 (Nat.le_of_ble_eq_true rfl) (Nat.le_of_ble_eq_true rfl)
set_option maxHeartbeats 4000000 in
set_option maxRecDepth 100000 in
theorem c_MK_needDepth (l : Launch) (hlt : l.stackTraces = false) (D : va_G) (cA : Nat → ClassId) (ad : Nat → Nat) (hI : InjA ad) (sz : Nat) (a1 : Int32) (S : SS) (hs : f_MK_needDepth a1 S ≠ none) : vx_Met l y_MK_needDepth w_MK_needDepth ({ frames := 6, cells := 1, slots := 6, locals := 90 }) (va_Pc [.ref (ad 0), .int a1] (fun U => U.heap.size = sz ∧ va_P D vwCl (X cA ad S) U.heap ∧ va_K D vwCl (tysX cA) U ∧ ZX (AS ad sz) U)) (va_Qv (fun (_ : Unit) => f_MK_needDepth a1 S = some (.inr ())) (fun (_ : Unit) t => va_P D vwCl (X cA ad S) t.heap ∧ va_K D vwCl (tysX cA) t) (AS ad sz)) (vx_X (fun (k : Nat) => f_MK_needDepth a1 S = some (.inl k) ∧ (k = 1)) (fun E k t => E = exN k ∧ va_P D vwCl (X cA ad S) t.heap ∧ va_K D vwCl (tysX cA) t) (AS ad sz)) 1 6 (AS ad sz) := by
  refine vx_ofW (cc := b_MK_needDepth) (maxL := 2) (ret := none) (by decide) rfl ?_
  intro p e s m args below meth c s₁ B hml hnoex hv
  obtain ⟨rfl, hsz, hP, hK, hZ⟩ := hv
  have hx := B.exec
  have hb := B.bytes
  have hr := B.returns
  have hts := atoms_spec (ws := w_MK_needDepth) B.pre
  have ht := fun w h => hts w (List.mem_cons_of_mem _ h)
  have hown : s.vm.findClass R_MK = some m.cls := findClass_of_methodNamed B.named
  have hlocks := B.notSynchronized
  subst hsz
  have hAd : ∀ q, q < NP → AS ad s.heap.size (ad q) := fun q h => Or.inl ⟨q, h, rfl⟩
  have hA : ∀ q : Nat, s.heap.size ≤ q → AS ad s.heap.size q := fun q h => Or.inr h
  have hAS : ∀ z : Nat, s.heap.size ≤ z → ∀ q : Nat, AS ad z q → AS ad s.heap.size q := fun z h q hq => hq.elim Or.inl (fun g => Or.inr (Nat.le_trans h g))
  generalize hAe : AS ad s.heap.size = A at hAd hA hAS hZ ⊢
  have hS : va_S A s.heap s.heap [] := va_S.rf
  have hl := lv_entry ([.ref (ad 0), .int a1]) (n := 2) (Nat.le_of_ble_eq_true rfl)
  rw [lg_entry_eq]
  generalize (lg_sl ([.ref (ad 0), .int a1]) ++ List.replicate (2 - (lg_sl ([.ref (ad 0), .int a1])).length) Slot.unset).toArray = ls at hl ⊢
  have hl : lv_has ls 2 [(0, .ref (ad 0)), (1, .int a1)] := hl
  have hf := (f_MK_needDepth_s a1 S).symm
  generalize hQ : vx_MQ below _ _ _ s _ _ _ = Q
  refine lv_iload_n hx hb d_MK_needDepth_0 rfl (lv_at hl 1 rfl) ?_
  refine lv_if_lt (tgt := 15) hx hb d_MK_needDepth_1 (by decide) (fun c1 => ?_) (fun c1 => ?_)
  · rw [if_pos c1] at hf
    obtain ⟨sa, hsa⟩ := hZ.2.2.1 ("MasterKeys", 174, "there is no such depth") (by decide +kernel)
    rw [← hQ]
    exact vx_throwS hx hb hlt hown (by decide +kernel) (by decide +kernel) (ht _ mK_MK_87) (ht _ mN_IAE) hsa (th_at1 ht hZ.2.2.2.1) th_good1 hZ.1 hZ.2.1 hS (hl.1.trans hml.symm) d_MK_needDepth_15 d_MK_needDepth_18 d_MK_needDepth_19 d_MK_needDepth_21 d_MK_needDepth_24 (fun x hx9 => (hnoex x hx9).elim) (Nat.le_of_ble_eq_true rfl) (Nat.le_of_ble_eq_true rfl) (Nat.le_of_ble_eq_true rfl) (Nat.le_of_ble_eq_true rfl) hlocks (fun t ha hz hk => ⟨1, ⟨hf.symm, rfl⟩, ⟨rfl, hP.kept (fun k9 q9 h9 => hk _ (hP k9 q9 h9).lt), va_K.moved ha hK⟩, ⟨Nat.le_trans hS.1 hz, fun q h1 h2 => (hk q (Nat.lt_of_lt_of_le h1 hS.1)).trans (hS.2.1 q h1 h2)⟩⟩) hS.2.2 (Nat.le_of_ble_eq_true rfl) (Nat.le_of_ble_eq_true rfl)
  · rw [if_neg c1] at hf
    refine lv_iload_n hx hb d_MK_needDepth_4 rfl (lv_at hl 1 rfl) ?_
    refine lv_aload_n hx hb d_MK_needDepth_5 rfl (lv_at hl 0 rfl) ?_
    refine va_get (D := D) (ci := 0) (v := .ref (ad 1)) (C := R_MK) (T := T_MK) (N := 5) hx hb ht i_MK hown hK hP 0 Xa_0 rfl 0 (by decide) (ht _ mF_MK_23) (fun _ h9 => h9) rfl d_MK_needDepth_6 ?_
    refine va_get (D := D) (ci := 1) (v := .int (S.1 1 1)) (C := R_Law) (T := T_Law) (N := 5) hx hb ht i_Law hown hK hP 1 Xa_1 rfl 1 (by decide) (ht _ mF_MK_171) (fun _ h9 => h9) rfl d_MK_needDepth_9 ?_
    refine lv_icmp_lt (tgt := 25) hx hb d_MK_needDepth_12 (by decide) (fun c2 => ?_) (fun c2 => ?_)
    · rw [if_pos c2] at hf
      refine W.widen (k := 1) (n := 6) (by decide) (by decide) ?_
      rw [← hQ]
      refine vx_ret ?_
      exact W.vret hx hb hr (fun t ht hW => ⟨⟨(), rfl, hf.symm, by rw [ht]; exact hP, va_K.moved hW.alike hK⟩, hS.F ht⟩) hS.2.2 d_MK_needDepth_25
    · rw [if_neg c2] at hf
      obtain ⟨sa, hsa⟩ := hZ.2.2.1 ("MasterKeys", 174, "there is no such depth") (by decide +kernel)
      rw [← hQ]
      exact vx_throwS hx hb hlt hown (by decide +kernel) (by decide +kernel) (ht _ mK_MK_87) (ht _ mN_IAE) hsa (th_at1 ht hZ.2.2.2.1) th_good1 hZ.1 hZ.2.1 hS (hl.1.trans hml.symm) d_MK_needDepth_15 d_MK_needDepth_18 d_MK_needDepth_19 d_MK_needDepth_21 d_MK_needDepth_24 (fun x hx9 => (hnoex x hx9).elim) (Nat.le_of_ble_eq_true rfl) (Nat.le_of_ble_eq_true rfl) (Nat.le_of_ble_eq_true rfl) (Nat.le_of_ble_eq_true rfl) hlocks (fun t ha hz hk => ⟨1, ⟨hf.symm, rfl⟩, ⟨rfl, hP.kept (fun k9 q9 h9 => hk _ (hP k9 q9 h9).lt), va_K.moved ha hK⟩, ⟨Nat.le_trans hS.1 hz, fun q h1 h2 => (hk q (Nat.lt_of_lt_of_le h1 hS.1)).trans (hS.2.1 q h1 h2)⟩⟩) hS.2.2 (Nat.le_of_ble_eq_true rfl) (Nat.le_of_ble_eq_true rfl)
set_option maxHeartbeats 4000000 in
set_option maxRecDepth 100000 in
theorem c_MK_bar (l : Launch) (hlt : l.stackTraces = false) (D : va_G) (cA : Nat → ClassId) (ad : Nat → Nat) (hI : InjA ad) (sz : Nat) (a1 : Int32) (a2 : Int32) (a3 : Int32) (S : SS) (hs : f_MK_bar a1 a2 a3 S ≠ none) : vx_Met l y_MK_bar w_MK_bar ({ frames := 7, cells := 2, slots := 12, locals := 111 }) (va_Pc [.ref (ad 0), .int a1, .int a2, .int a3] (fun U => U.heap.size = sz ∧ va_P D vwCl (X cA ad S) U.heap ∧ va_K D vwCl (tysX cA) U ∧ ZX (AS ad sz) U)) (va_Qi (fun (r : Int32) (u : SS) => f_MK_bar a1 a2 a3 S = some (.inr (r, u)) ∧ (r = 0 ∨ r = 1)) (fun (u : SS) t => va_P D vwCl (X cA ad u) t.heap ∧ va_K D vwCl (tysX cA) t) (AS ad sz)) (vx_X (fun (k : Nat) => f_MK_bar a1 a2 a3 S = some (.inl k) ∧ (k = 1)) (fun E k t => E = exN k ∧ va_P D vwCl (X cA ad S) t.heap ∧ va_K D vwCl (tysX cA) t) (AS ad sz)) 2 12 (AS ad sz) := by
  refine vx_ofW (cc := b_MK_bar) (maxL := 5) (ret := (some .boolean)) (by decide) rfl ?_
  intro p e s m args below meth c s₁ B hml hnoex hv
  obtain ⟨rfl, hsz, hP, hK, hZ⟩ := hv
  have hx := B.exec
  have hb := B.bytes
  have hr := B.returns
  have hts := atoms_spec (ws := w_MK_bar) B.pre
  have ht := fun w h => hts w (List.mem_cons_of_mem _ h)
  have hown : s.vm.findClass R_MK = some m.cls := findClass_of_methodNamed B.named
  have hlocks := B.notSynchronized
  subst hsz
  have hAd : ∀ q, q < NP → AS ad s.heap.size (ad q) := fun q h => Or.inl ⟨q, h, rfl⟩
  have hA : ∀ q : Nat, s.heap.size ≤ q → AS ad s.heap.size q := fun q h => Or.inr h
  have hAS : ∀ z : Nat, s.heap.size ≤ z → ∀ q : Nat, AS ad z q → AS ad s.heap.size q := fun z h q hq => hq.elim Or.inl (fun g => Or.inr (Nat.le_trans h g))
  generalize hAe : AS ad s.heap.size = A at hAd hA hAS hZ ⊢
  have hS : va_S A s.heap s.heap [] := va_S.rf
  have hl := lv_entry ([.ref (ad 0), .int a1, .int a2, .int a3]) (n := 5) (Nat.le_of_ble_eq_true rfl)
  rw [lg_entry_eq]
  generalize (lg_sl ([.ref (ad 0), .int a1, .int a2, .int a3]) ++ List.replicate (5 - (lg_sl ([.ref (ad 0), .int a1, .int a2, .int a3])).length) Slot.unset).toArray = ls at hl ⊢
  have hl : lv_has ls 5 [(0, .ref (ad 0)), (1, .int a1), (2, .int a2), (3, .int a3)] := hl
  have hf := (f_MK_bar_s a1 a2 a3 S).symm
  generalize hQ : vx_MQ below _ _ _ s _ _ _ = Q
  refine lv_aload_n hx hb d_MK_bar_0 rfl (lv_at hl 0 rfl) ?_
  refine lv_iload_n hx hb d_MK_bar_1 rfl (lv_at hl 1 rfl) ?_
  refine vx_callv (vx_runV (As := [.int a1]) (rest := []) ⟨hx, hb, hml, hown, ht⟩ (c_MK_needDepth l hlt D cA ad hI s.heap.size a1 S (fun hn => hs (by rw [hn] at hf; exact hf.symm))) (cwV 1 ht (good_G (gV mM_MK_95 mI_MK_needDepth mV_MK_needDepth mN_MK mk_MK_needDepth)) rfl rfl rfl (by decide +kernel) ⟨Nat.le_of_ble_eq_true rfl, Nat.le_of_ble_eq_true rfl⟩) ⟨fun a U g mk q => ⟨q.1, q.2.1, q.2.2.1, va_K.moved (u := U) (U := U.calling g mk a) (Vm.Alike.refl U.vm) q.2.2.2.1, ZX.call q.2.2.2.2⟩, va_recv hK hP (ci := 0) (q0 := 0) rfl Xa_0, fun U hU hW => ⟨rfl, by rw [hU], by rw [hU]; exact hP, va_K.moved hW.alike hK, hZ.to hS (hAS _ hS.1) hU hW⟩⟩ rfl rfl hl.1 rfl (lv_room (Nat.le_of_ble_eq_true rfl)) d_MK_bar_2 ⟨Nat.le_of_ble_eq_true rfl, Nat.le_of_ble_eq_true rfl⟩) hS (fun q _ h => hAS _ hS.1 q h) (fun q h => hAS _ hS.1 q h) (fun q _ h => hAS _ hS.1 q h) (fun E ce q9 kx tx H locs ht9 hvm9 hw9 hB9 hz9 hk9 hS hce hcv hcl => ?_) (fun _ t H locs ht9 hvm hw hB hz1 hk1 hS => ?_)
  · obtain ⟨hE9, hP, hK9⟩ := hB9
    rw [ht9] at hP
    obtain ⟨hw9, hk9⟩ := hw9
    rw [hw9, Option.bind_some, Sum.elim_inl] at hf
    rw [← hQ]
    exact vx_out (E := E) (fun x hx9 => (hnoex x hx9).elim) hlocks hce hcv hcl (fun t ht ha => ⟨kx, ⟨hf.symm, hk9⟩, ⟨hE9, by rw [ht]; exact hP, va_K.moved ha hK⟩, hS.F ht⟩) hS.2.2 (Nat.le_of_ble_eq_true rfl) (Nat.le_of_ble_eq_true rfl)
  obtain ⟨hP, hK9⟩ := hB
  rw [ht9] at hP
  rw [hw, Option.bind_some, Sum.elim_inr] at hf
  refine lv_aload_n hx hb d_MK_bar_5 rfl (lv_at hl 0 rfl) ?_
  refine lv_iload_n hx hb d_MK_bar_6 rfl (lv_at hl 2 rfl) ?_
  refine vx_callv (vx_runV (As := [.int a2]) (rest := []) ⟨hx, hb, hml, hown, ht⟩ (c_MK_needDepth l hlt D cA ad hI H.size a2 S (fun hn => hs (by rw [hn] at hf; exact hf.symm))) (cwV 1 ht (good_G (gV mM_MK_95 mI_MK_needDepth mV_MK_needDepth mN_MK mk_MK_needDepth)) rfl rfl rfl (by decide +kernel) ⟨Nat.le_of_ble_eq_true rfl, Nat.le_of_ble_eq_true rfl⟩) ⟨fun a U g mk q => ⟨q.1, q.2.1, q.2.2.1, va_K.moved (u := U) (U := U.calling g mk a) (Vm.Alike.refl U.vm) q.2.2.2.1, ZX.call q.2.2.2.2⟩, va_recv hK hP (ci := 0) (q0 := 0) rfl Xa_0, fun U hU hW => ⟨rfl, by rw [hU], by rw [hU]; exact hP, va_K.moved hW.alike hK, hZ.to hS (hAS _ hS.1) hU hW⟩⟩ rfl rfl hl.1 rfl (lv_room (Nat.le_of_ble_eq_true rfl)) d_MK_bar_7 ⟨Nat.le_of_ble_eq_true rfl, Nat.le_of_ble_eq_true rfl⟩) hS (fun q _ h => hAS _ hS.1 q h) (fun q h => hAS _ hS.1 q h) (fun q _ h => hAS _ hS.1 q h) (fun E ce q9 kx tx H locs ht9 hvm9 hw9 hB9 hz9 hk9 hS hce hcv hcl => ?_) (fun _ t H locs ht9 hvm hw hB hz1 hk1 hS => ?_)
  · obtain ⟨hE9, hP, hK9⟩ := hB9
    rw [ht9] at hP
    obtain ⟨hw9, hk9⟩ := hw9
    rw [hw9, Option.bind_some, Sum.elim_inl] at hf
    rw [← hQ]
    exact vx_out (E := E) (fun x hx9 => (hnoex x hx9).elim) hlocks hce hcv hcl (fun t ht ha => ⟨kx, ⟨hf.symm, hk9⟩, ⟨hE9, by rw [ht]; exact hP, va_K.moved ha hK⟩, hS.F ht⟩) hS.2.2 (Nat.le_of_ble_eq_true rfl) (Nat.le_of_ble_eq_true rfl)
  obtain ⟨hP, hK9⟩ := hB
  rw [ht9] at hP
  rw [hw, Option.bind_some, Sum.elim_inr] at hf
  refine lv_aload_n hx hb d_MK_bar_10 rfl (lv_at hl 0 rfl) ?_
  refine lv_iconst (v := 0) hx hb d_MK_bar_11 (by decide) ?_
  refine va_put (D := D) (ci := 0) (v := .int (0 : Int32)) (ty := .boolean) (C := R_MK) (T := T_MK) (N := 5) hx hb ht i_MK t_MK t_MK_ok n_MK hown hK hP (X_D hI hAd) hS 0 Xa_0 rfl 4 (by decide) (ht _ mF_MK_63) (fun _ h9 => h9) rfl (by decide +kernel) rfl rfl (Nat.le_of_ble_eq_true rfl) d_MK_bar_12 (fun H locs hP _ hS => ?_)
  replace hP := X_putI (by decide) hP rfl
  refine lv_aload_n hx hb d_MK_bar_15 rfl (lv_at hl 0 rfl) ?_
  refine va_get (D := D) (ci := 0) (v := .ref (ad 1)) (C := R_MK) (T := T_MK) (N := 5) hx hb ht i_MK hown hK hP 0 Xa_0 rfl 0 (by decide) (ht _ mF_MK_23) (fun _ h9 => h9) rfl d_MK_bar_16 ?_
  refine lv_iload_n hx hb d_MK_bar_19 rfl (lv_at hl 1 rfl) ?_
  refine lv_iload_n hx hb d_MK_bar_20 rfl (lv_at hl 2 rfl) ?_
  refine va_calli (va_runV (As := [.int a1, .int a2]) (rest := []) ⟨hx, hb, hml, hown, ht⟩ (c_Law_isBarred l D cA ad hI H.size a1 a2 (wI S 0 4 (0 : Int32)) (fun hn => hs (by rw [hn] at hf; exact hf.symm))) (cwV 2 ht (good_G (gV mM_MK_98 mI_Law_isBarred mV_Law_isBarred mN_Law mk_Law_isBarred)) rfl rfl rfl (by decide +kernel) ⟨Nat.le_of_ble_eq_true rfl, Nat.le_of_ble_eq_true rfl⟩) ⟨fun a U g mk q => ⟨q.1, q.2.1, q.2.2.1, va_K.moved (u := U) (U := U.calling g mk a) (Vm.Alike.refl U.vm) q.2.2.2⟩, va_recv hK hP (ci := 1) (q0 := 1) rfl Xa_1, fun U hU hW => ⟨rfl, by rw [hU], by rw [hU]; exact hP, va_K.moved hW.alike hK⟩⟩ rfl rfl hl.1 rfl (lv_room (Nat.le_of_ble_eq_true rfl)) d_MK_bar_21 ⟨Nat.le_of_ble_eq_true rfl, Nat.le_of_ble_eq_true rfl⟩) hS (fun q _ h => hAS _ hS.1 q h) (fun q h => hAS _ hS.1 q h) (fun r3 _ t H locs ht9 hvm hw hB hz1 hk1 hS => ?_)
  obtain ⟨hP, hK9⟩ := hB
  rw [ht9] at hP
  obtain ⟨hw, hz3⟩ := hw
  rw [hw, Option.bind_some] at hf
  refine lv_istore (lv' := [(4, .int r3), (0, .ref (ad 0)), (1, .int a1), (2, .int a2), (3, .int a3)]) hx hb d_MK_bar_24 hl (by decide) rfl (fun ls hl => ?_)
  refine lv_aload_n hx hb d_MK_bar_26 rfl (lv_at hl 1 rfl) ?_
  refine va_get (D := D) (ci := 0) (v := .ref (ad 1)) (C := R_MK) (T := T_MK) (N := 5) hx hb ht i_MK hown hK hP 0 Xa_0 rfl 0 (by decide) (ht _ mF_MK_23) (fun _ h9 => h9) rfl d_MK_bar_27 ?_
  refine lv_iload_n hx hb d_MK_bar_30 rfl (lv_at hl 2 rfl) ?_
  refine lv_iload_n hx hb d_MK_bar_31 rfl (lv_at hl 3 rfl) ?_
  refine lv_iload_n hx hb d_MK_bar_32 rfl (lv_at hl 4 rfl) ?_
  refine va_callv (va_runV (As := [.int a1, .int a2, .int a3]) (rest := []) ⟨hx, hb, hml, hown, ht⟩ (c_Law_setBarred l D cA ad hI H.size a1 a2 a3 (wI S 0 4 (0 : Int32)) (fun hn => hs (by rw [hn] at hf; exact hf.symm))) (cwV 3 ht (good_G (gV mM_MK_101 mI_Law_setBarred mV_Law_setBarred mN_Law mk_Law_setBarred)) rfl rfl rfl (by decide +kernel) ⟨Nat.le_of_ble_eq_true rfl, Nat.le_of_ble_eq_true rfl⟩) ⟨fun a U g mk q => ⟨q.1, q.2.1, q.2.2.1, va_K.moved (u := U) (U := U.calling g mk a) (Vm.Alike.refl U.vm) q.2.2.2⟩, va_recv hK hP (ci := 1) (q0 := 1) rfl Xa_1, fun U hU hW => ⟨rfl, by rw [hU], by rw [hU]; exact hP, va_K.moved hW.alike hK⟩⟩ rfl rfl hl.1 rfl (lv_room (Nat.le_of_ble_eq_true rfl)) d_MK_bar_33 ⟨Nat.le_of_ble_eq_true rfl, Nat.le_of_ble_eq_true rfl⟩) hS (fun q _ h => hAS _ hS.1 q h) (fun q h => hAS _ hS.1 q h) (fun u4 t H locs ht9 hvm hw hB hz1 hk1 hS => ?_)
  obtain ⟨hP, hK9⟩ := hB
  rw [ht9] at hP
  rw [hw, Option.bind_some] at hf
  refine lv_iload hx hb d_MK_bar_36 (lv_at hl 0 rfl) ?_
  by_cases hz : r3 = 0 ∨ r3 = 1
  case neg => rw [if_neg hz] at hf; exact absurd hf.symm hs
  rw [if_pos hz] at hf
  rw [← hQ]
  refine vx_ret ?_
  exact W.zret (v := r3) hx hb hr (zb_n hz) (fun t ht hW => ⟨⟨r3, u4, rfl, ⟨hf.symm, hz⟩, by rw [ht]; exact hP, va_K.moved hW.alike hK⟩, hS.F ht⟩) hS.2.2 d_MK_bar_38
set_option maxHeartbeats 4000000 in
set_option maxRecDepth 100000 in
theorem c_MK_top (l : Launch) (hlt : l.stackTraces = false) (D : va_G) (cA : Nat → ClassId) (ad : Nat → Nat) (hI : InjA ad) (sz : Nat) (a1 : Int32) (S : SS) (hs : f_MK_top a1 S ≠ none) : vx_Met l y_MK_top w_MK_top ({ frames := 6, cells := 1, slots := 6, locals := 90 }) (va_Pc [.ref (ad 0), .int a1] (fun U => U.heap.size = sz ∧ va_P D vwCl (X cA ad S) U.heap ∧ va_K D vwCl (tysX cA) U ∧ ZX (AS ad sz) U)) (va_Qi (fun (r : Int32) (u : SS) => f_MK_top a1 S = some (.inr (r, u))) (fun (u : SS) t => va_P D vwCl (X cA ad u) t.heap ∧ va_K D vwCl (tysX cA) t) (AS ad sz)) (vx_X (fun (k : Nat) => f_MK_top a1 S = some (.inl k) ∧ (k = 1)) (fun E k t => E = exN k ∧ va_P D vwCl (X cA ad S) t.heap ∧ va_K D vwCl (tysX cA) t) (AS ad sz)) 1 6 (AS ad sz) := by
  refine vx_ofW (cc := b_MK_top) (maxL := 3) (ret := (some .int)) (by decide) rfl ?_
  intro p e s m args below meth c s₁ B hml hnoex hv
  obtain ⟨rfl, hsz, hP, hK, hZ⟩ := hv
  have hx := B.exec
  have hb := B.bytes
  have hr := B.returns
  have hts := atoms_spec (ws := w_MK_top) B.pre
  have ht := fun w h => hts w (List.mem_cons_of_mem _ h)
  have hown : s.vm.findClass R_MK = some m.cls := findClass_of_methodNamed B.named
  have hlocks := B.notSynchronized
  subst hsz
  have hAd : ∀ q, q < NP → AS ad s.heap.size (ad q) := fun q h => Or.inl ⟨q, h, rfl⟩
  have hA : ∀ q : Nat, s.heap.size ≤ q → AS ad s.heap.size q := fun q h => Or.inr h
  have hAS : ∀ z : Nat, s.heap.size ≤ z → ∀ q : Nat, AS ad z q → AS ad s.heap.size q := fun z h q hq => hq.elim Or.inl (fun g => Or.inr (Nat.le_trans h g))
  generalize hAe : AS ad s.heap.size = A at hAd hA hAS hZ ⊢
  have hS : va_S A s.heap s.heap [] := va_S.rf
  have hl := lv_entry ([.ref (ad 0), .int a1]) (n := 3) (Nat.le_of_ble_eq_true rfl)
  rw [lg_entry_eq]
  generalize (lg_sl ([.ref (ad 0), .int a1]) ++ List.replicate (3 - (lg_sl ([.ref (ad 0), .int a1])).length) Slot.unset).toArray = ls at hl ⊢
  have hl : lv_has ls 3 [(0, .ref (ad 0)), (1, .int a1)] := hl
  have hf := (f_MK_top_s a1 S).symm
  generalize hQ : vx_MQ below _ _ _ s _ _ _ = Q
  refine lv_iload_n hx hb d_MK_top_0 rfl (lv_at hl 1 rfl) ?_
  refine lv_iconst (v := 1) hx hb d_MK_top_1 (by decide) ?_
  refine lv_icmp_lt (tgt := 11) hx hb d_MK_top_2 (by decide) (fun c1 => ?_) (fun c1 => ?_)
  · rw [if_pos c1] at hf
    obtain ⟨sa, hsa⟩ := hZ.2.2.1 ("MasterKeys", 104, "TOP is 1 .. 8") (by decide +kernel)
    rw [← hQ]
    exact vx_throwS hx hb hlt hown (by decide +kernel) (by decide +kernel) (ht _ mK_MK_87) (ht _ mN_IAE) hsa (th_at1 ht hZ.2.2.2.1) th_good1 hZ.1 hZ.2.1 hS (hl.1.trans hml.symm) d_MK_top_11 d_MK_top_14 d_MK_top_15 d_MK_top_17 d_MK_top_20 (fun x hx9 => (hnoex x hx9).elim) (Nat.le_of_ble_eq_true rfl) (Nat.le_of_ble_eq_true rfl) (Nat.le_of_ble_eq_true rfl) (Nat.le_of_ble_eq_true rfl) hlocks (fun t ha hz hk => ⟨1, ⟨hf.symm, rfl⟩, ⟨rfl, hP.kept (fun k9 q9 h9 => hk _ (hP k9 q9 h9).lt), va_K.moved ha hK⟩, ⟨Nat.le_trans hS.1 hz, fun q h1 h2 => (hk q (Nat.lt_of_lt_of_le h1 hS.1)).trans (hS.2.1 q h1 h2)⟩⟩) hS.2.2 (Nat.le_of_ble_eq_true rfl) (Nat.le_of_ble_eq_true rfl)
  · rw [if_neg c1] at hf
    refine lv_iload_n hx hb d_MK_top_5 rfl (lv_at hl 1 rfl) ?_
    refine lv_bipush (v := 8) hx hb d_MK_top_6 (by decide) ?_
    refine lv_icmp_le (tgt := 21) hx hb d_MK_top_8 (by decide) (fun c2 => ?_) (fun c2 => ?_)
    · rw [if_pos c2] at hf
      refine lv_aload_n hx hb d_MK_top_21 rfl (lv_at hl 0 rfl) ?_
      refine lv_iconst (v := 0) hx hb d_MK_top_22 (by decide) ?_
      refine va_put (D := D) (ci := 0) (v := .int (0 : Int32)) (ty := .boolean) (C := R_MK) (T := T_MK) (N := 5) hx hb ht i_MK t_MK t_MK_ok n_MK hown hK hP (X_D hI hAd) hS 0 Xa_0 rfl 4 (by decide) (ht _ mF_MK_63) (fun _ h9 => h9) rfl (by decide +kernel) rfl rfl (Nat.le_of_ble_eq_true rfl) d_MK_top_23 (fun H locs hP _ hS => ?_)
      replace hP := X_putI (by decide) hP rfl
      refine lv_aload_n hx hb d_MK_top_26 rfl (lv_at hl 0 rfl) ?_
      refine va_get (D := D) (ci := 0) (v := .ref (ad 1)) (C := R_MK) (T := T_MK) (N := 5) hx hb ht i_MK hown hK hP 0 Xa_0 rfl 0 (by decide) (ht _ mF_MK_23) (fun _ h9 => h9) rfl d_MK_top_27 ?_
      refine va_get (D := D) (ci := 1) (v := .int (S.1 1 3)) (C := R_Law) (T := T_Law) (N := 5) hx hb ht i_Law hown hK hP 1 Xa_1 rfl 3 (by decide) (ht _ mF_MK_106) (fun _ h9 => h9) rfl d_MK_top_30 ?_
      refine lv_istore_n (lv' := [(2, .int (S.1 1 3)), (0, .ref (ad 0)), (1, .int a1)]) hx hb d_MK_top_33 rfl hl (by decide) rfl (fun ls hl => ?_)
      refine lv_aload_n hx hb d_MK_top_34 rfl (lv_at hl 1 rfl) ?_
      refine va_get (D := D) (ci := 0) (v := .ref (ad 1)) (C := R_MK) (T := T_MK) (N := 5) hx hb ht i_MK hown hK hP 0 Xa_0 rfl 0 (by decide) (ht _ mF_MK_23) (fun _ h9 => h9) rfl d_MK_top_35 ?_
      refine lv_iload_n hx hb d_MK_top_38 rfl (lv_at hl 2 rfl) ?_
      refine va_put (D := D) (ci := 1) (v := .int a1) (ty := .int) (C := R_Law) (T := T_Law) (N := 5) hx hb ht i_Law t_Law t_Law_ok n_Law hown hK hP (X_D hI hAd) hS 1 Xa_1 rfl 3 (by decide) (ht _ mF_MK_106) (fun _ h9 => h9) rfl (by decide +kernel) rfl rfl (Nat.le_of_ble_eq_true rfl) d_MK_top_39 (fun H locs hP _ hS => ?_)
      replace hP := X_putI (by decide) hP rfl
      refine lv_iload_n hx hb d_MK_top_42 rfl (lv_at hl 0 rfl) ?_
      refine W.widen (k := 1) (n := 6) (by decide) (by decide) ?_
      rw [← hQ]
      refine vx_ret ?_
      exact W.iret (v := S.1 1 3) hx hb hr (fun t ht hW => ⟨⟨S.1 1 3, wI (wI S 0 4 (0 : Int32)) 1 3 a1, rfl, hf.symm, by rw [ht]; exact hP, va_K.moved hW.alike hK⟩, hS.F ht⟩) hS.2.2 d_MK_top_43
    · rw [if_neg c2] at hf
      obtain ⟨sa, hsa⟩ := hZ.2.2.1 ("MasterKeys", 104, "TOP is 1 .. 8") (by decide +kernel)
      rw [← hQ]
      exact vx_throwS hx hb hlt hown (by decide +kernel) (by decide +kernel) (ht _ mK_MK_87) (ht _ mN_IAE) hsa (th_at1 ht hZ.2.2.2.1) th_good1 hZ.1 hZ.2.1 hS (hl.1.trans hml.symm) d_MK_top_11 d_MK_top_14 d_MK_top_15 d_MK_top_17 d_MK_top_20 (fun x hx9 => (hnoex x hx9).elim) (Nat.le_of_ble_eq_true rfl) (Nat.le_of_ble_eq_true rfl) (Nat.le_of_ble_eq_true rfl) (Nat.le_of_ble_eq_true rfl) hlocks (fun t ha hz hk => ⟨1, ⟨hf.symm, rfl⟩, ⟨rfl, hP.kept (fun k9 q9 h9 => hk _ (hP k9 q9 h9).lt), va_K.moved ha hK⟩, ⟨Nat.le_trans hS.1 hz, fun q h1 h2 => (hk q (Nat.lt_of_lt_of_le h1 hS.1)).trans (hS.2.1 q h1 h2)⟩⟩) hS.2.2 (Nat.le_of_ble_eq_true rfl) (Nat.le_of_ble_eq_true rfl)
set_option maxHeartbeats 4000000 in
set_option maxRecDepth 100000 in
theorem c_MK_run (l : Launch) (hlt : l.stackTraces = false) (D : va_G) (cA : Nat → ClassId) (ad : Nat → Nat) (hI : InjA ad) (sz : Nat) (a1 : Int32) (S : SS) (hs : f_MK_run a1 S ≠ none) : vx_Met l y_MK_run w_MK_run ({ frames := 6, cells := 1, slots := 6, locals := 140 }) (va_Pc [.ref (ad 0), .int a1] (fun U => U.heap.size = sz ∧ va_P D vwCl (X cA ad S) U.heap ∧ va_K D vwCl (tysX cA) U ∧ ZX (AS ad sz) U)) (va_Qi (fun (r : Int32) (u : SS) => f_MK_run a1 S = some (.inr (r, u))) (fun (u : SS) t => va_P D vwCl (X cA ad u) t.heap ∧ va_K D vwCl (tysX cA) t) (AS ad sz)) (vx_X (fun (k : Nat) => f_MK_run a1 S = some (.inl k) ∧ (k = 1 ∨ k = 2)) (fun E k t => E = exN k ∧ va_P D vwCl (X cA ad S) t.heap ∧ va_K D vwCl (tysX cA) t) (AS ad sz)) 1 6 (AS ad sz) := by
  refine vx_ofW (cc := b_MK_run) (maxL := 3) (ret := (some .int)) (by decide) rfl ?_
  intro p e s m args below meth c s₁ B hml hnoex hv
  obtain ⟨rfl, hsz, hP, hK, hZ⟩ := hv
  have hx := B.exec
  have hb := B.bytes
  have hr := B.returns
  have hts := atoms_spec (ws := w_MK_run) B.pre
  have ht := fun w h => hts w (List.mem_cons_of_mem _ h)
  have hown : s.vm.findClass R_MK = some m.cls := findClass_of_methodNamed B.named
  have hlocks := B.notSynchronized
  subst hsz
  have hAd : ∀ q, q < NP → AS ad s.heap.size (ad q) := fun q h => Or.inl ⟨q, h, rfl⟩
  have hA : ∀ q : Nat, s.heap.size ≤ q → AS ad s.heap.size q := fun q h => Or.inr h
  have hAS : ∀ z : Nat, s.heap.size ≤ z → ∀ q : Nat, AS ad z q → AS ad s.heap.size q := fun z h q hq => hq.elim Or.inl (fun g => Or.inr (Nat.le_trans h g))
  generalize hAe : AS ad s.heap.size = A at hAd hA hAS hZ ⊢
  have hS : va_S A s.heap s.heap [] := va_S.rf
  have hl := lv_entry ([.ref (ad 0), .int a1]) (n := 3) (Nat.le_of_ble_eq_true rfl)
  rw [lg_entry_eq]
  generalize (lg_sl ([.ref (ad 0), .int a1]) ++ List.replicate (3 - (lg_sl ([.ref (ad 0), .int a1])).length) Slot.unset).toArray = ls at hl ⊢
  have hl : lv_has ls 3 [(0, .ref (ad 0)), (1, .int a1)] := hl
  have hf := (f_MK_run_s a1 S).symm
  generalize hQ : vx_MQ below _ _ _ s _ _ _ = Q
  refine lv_iload_n hx hb d_MK_run_0 rfl (lv_at hl 1 rfl) ?_
  refine lv_if_lt (tgt := 10) hx hb d_MK_run_1 (by decide) (fun c1 => ?_) (fun c1 => ?_)
  · rw [if_pos c1] at hf
    obtain ⟨sa, hsa⟩ := hZ.2.2.1 ("MasterKeys", 110, "tries are 0 .. 200000") (by decide +kernel)
    rw [← hQ]
    exact vx_throwS hx hb hlt hown (by decide +kernel) (by decide +kernel) (ht _ mK_MK_87) (ht _ mN_IAE) hsa (th_at1 ht hZ.2.2.2.1) th_good1 hZ.1 hZ.2.1 hS (hl.1.trans hml.symm) d_MK_run_10 d_MK_run_13 d_MK_run_14 d_MK_run_16 d_MK_run_19 (fun x hx9 => (hnoex x hx9).elim) (Nat.le_of_ble_eq_true rfl) (Nat.le_of_ble_eq_true rfl) (Nat.le_of_ble_eq_true rfl) (Nat.le_of_ble_eq_true rfl) hlocks (fun t ha hz hk => ⟨1, ⟨hf.symm, Or.inl rfl⟩, ⟨rfl, hP.kept (fun k9 q9 h9 => hk _ (hP k9 q9 h9).lt), va_K.moved ha hK⟩, ⟨Nat.le_trans hS.1 hz, fun q h1 h2 => (hk q (Nat.lt_of_lt_of_le h1 hS.1)).trans (hS.2.1 q h1 h2)⟩⟩) hS.2.2 (Nat.le_of_ble_eq_true rfl) (Nat.le_of_ble_eq_true rfl)
  · rw [if_neg c1] at hf
    refine lv_iload_n hx hb d_MK_run_4 rfl (lv_at hl 1 rfl) ?_
    refine lv_ldc (v := 200000) hx hb hown (ht _ mC_MK_109) d_MK_run_5 ?_
    refine lv_icmp_le (tgt := 20) hx hb d_MK_run_7 (by decide) (fun c2 => ?_) (fun c2 => ?_)
    · rw [if_pos c2] at hf
      refine lv_aload_n hx hb d_MK_run_20 rfl (lv_at hl 0 rfl) ?_
      refine va_get (D := D) (ci := 0) (v := .ref (ad 2)) (C := R_MK) (T := T_MK) (N := 5) hx hb ht i_MK hown hK hP 0 Xa_0 rfl 1 (by decide) (ht _ mF_MK_32) (fun _ h9 => h9) rfl d_MK_run_21 ?_
      refine va_get (D := D) (ci := 2) (v := .int (S.1 2 1)) (C := R_Board) (T := T_Board) (N := 7) hx hb ht i_Board hown hK hP 2 Xa_2 rfl 1 (by decide) (ht _ mF_MK_52) (fun _ h9 => h9) rfl d_MK_run_24 ?_
      refine lv_if_ne (tgt := 40) hx hb d_MK_run_27 (by decide) (fun c3 => ?_) (fun c3 => ?_)
      · rw [if_neg c3] at hf
        refine lv_aload_n hx hb d_MK_run_40 rfl (lv_at hl 0 rfl) ?_
        refine va_get (D := D) (ci := 0) (v := .ref (ad 3)) (C := R_MK) (T := T_MK) (N := 5) hx hb ht i_MK hown hK hP 0 Xa_0 rfl 2 (by decide) (ht _ mF_MK_41) (fun _ h9 => h9) rfl d_MK_run_41 ?_
        refine lv_iload_n hx hb d_MK_run_44 rfl (lv_at hl 1 rfl) ?_
        refine va_calli (va_runV (As := [.int a1]) (rest := []) ⟨hx, hb, hml, hown, ht⟩ (c_Search_look l D cA ad hI s.heap.size a1 S (fun hn => hs (by rw [hn] at hf; exact hf.symm))) (cwV 1 ht (good_G (gV mM_MK_114 mI_Search_look mV_Search_look mN_Search mk_Search_look)) rfl rfl rfl (by decide +kernel) ⟨Nat.le_of_ble_eq_true rfl, Nat.le_of_ble_eq_true rfl⟩) ⟨fun a U g mk q => ⟨q.1, q.2.1, q.2.2.1, va_K.moved (u := U) (U := U.calling g mk a) (Vm.Alike.refl U.vm) q.2.2.2⟩, va_recv hK hP (ci := 3) (q0 := 3) rfl Xa_3, fun U hU hW => ⟨rfl, by rw [hU], by rw [hU]; exact hP, va_K.moved hW.alike hK⟩⟩ rfl rfl hl.1 rfl (lv_room (Nat.le_of_ble_eq_true rfl)) d_MK_run_45 ⟨Nat.le_of_ble_eq_true rfl, Nat.le_of_ble_eq_true rfl⟩) hS (fun q _ h => hAS _ hS.1 q h) (fun q h => hAS _ hS.1 q h) (fun r1 u1 t H locs ht9 hvm hw hB hz1 hk1 hS => ?_)
        obtain ⟨hP, hK9⟩ := hB
        rw [ht9] at hP
        rw [hw, Option.bind_some] at hf
        dsimp only at hf
        refine lv_istore_n (lv' := [(2, .int r1), (0, .ref (ad 0)), (1, .int a1)]) hx hb d_MK_run_48 rfl hl (by decide) rfl (fun ls hl => ?_)
        refine lv_aload_n hx hb d_MK_run_49 rfl (lv_at hl 1 rfl) ?_
        refine lv_iload_n hx hb d_MK_run_50 rfl (lv_at hl 0 rfl) ?_
        refine lv_iconst (v := 1) hx hb d_MK_run_51 (by decide) ?_
        refine lv_icmp_ne (tgt := 59) hx hb d_MK_run_52 (by decide) (fun c4 => ?_) (fun c4 => ?_)
        · rw [if_neg c4] at hf
          refine lv_iconst (v := 0) hx hb d_MK_run_59 (by decide) ?_
          refine va_put (D := D) (ci := 0) (v := .int (0 : Int32)) (ty := .boolean) (C := R_MK) (T := T_MK) (N := 5) hx hb ht i_MK t_MK t_MK_ok n_MK hown hK hP (X_D hI hAd) hS 0 Xa_0 rfl 4 (by decide) (ht _ mF_MK_63) (fun _ h9 => h9) rfl (by decide +kernel) rfl rfl (Nat.le_of_ble_eq_true rfl) d_MK_run_60 (fun H locs hP _ hS => ?_)
          replace hP := X_putI (by decide) hP rfl
          refine lv_iload_n hx hb d_MK_run_63 rfl (lv_at hl 0 rfl) ?_
          refine W.widen (k := 1) (n := 6) (by decide) (by decide) ?_
          rw [← hQ]
          refine vx_ret ?_
          exact W.iret (v := r1) hx hb hr (fun t ht hW => ⟨⟨r1, wI u1 0 4 (0 : Int32), rfl, hf.symm, by rw [ht]; exact hP, va_K.moved hW.alike hK⟩, hS.F ht⟩) hS.2.2 d_MK_run_64
        · rw [if_pos c4] at hf
          refine lv_iconst (v := 1) hx hb d_MK_run_55 (by decide) ?_
          refine lv_goto (tgt := 60) hx hb d_MK_run_56 (by decide) ?_
          refine va_put (D := D) (ci := 0) (v := .int (1 : Int32)) (ty := .boolean) (C := R_MK) (T := T_MK) (N := 5) hx hb ht i_MK t_MK t_MK_ok n_MK hown hK hP (X_D hI hAd) hS 0 Xa_0 rfl 4 (by decide) (ht _ mF_MK_63) (fun _ h9 => h9) rfl (by decide +kernel) rfl rfl (Nat.le_of_ble_eq_true rfl) d_MK_run_60 (fun H locs hP _ hS => ?_)
          replace hP := X_putI (by decide) hP rfl
          refine lv_iload_n hx hb d_MK_run_63 rfl (lv_at hl 0 rfl) ?_
          refine W.widen (k := 1) (n := 6) (by decide) (by decide) ?_
          rw [← hQ]
          refine vx_ret ?_
          exact W.iret (v := r1) hx hb hr (fun t ht hW => ⟨⟨r1, wI u1 0 4 (1 : Int32), rfl, hf.symm, by rw [ht]; exact hP, va_K.moved hW.alike hK⟩, hS.F ht⟩) hS.2.2 d_MK_run_64
      · rw [if_pos c3] at hf
        obtain ⟨sa, hsa⟩ := hZ.2.2.1 ("MasterKeys", 112, "there are no keys") (by decide +kernel)
        rw [← hQ]
        exact vx_throwS hx hb hlt hown (by decide +kernel) (by decide +kernel) (ht _ mK_MK_56) (ht _ mN_ISE) hsa (th_at2 ht hZ.2.2.2.1) th_good2 hZ.1 hZ.2.1 hS (hl.1.trans hml.symm) d_MK_run_30 d_MK_run_33 d_MK_run_34 d_MK_run_36 d_MK_run_39 (fun x hx9 => (hnoex x hx9).elim) (Nat.le_of_ble_eq_true rfl) (Nat.le_of_ble_eq_true rfl) (Nat.le_of_ble_eq_true rfl) (Nat.le_of_ble_eq_true rfl) hlocks (fun t ha hz hk => ⟨2, ⟨hf.symm, Or.inr rfl⟩, ⟨rfl, hP.kept (fun k9 q9 h9 => hk _ (hP k9 q9 h9).lt), va_K.moved ha hK⟩, ⟨Nat.le_trans hS.1 hz, fun q h1 h2 => (hk q (Nat.lt_of_lt_of_le h1 hS.1)).trans (hS.2.1 q h1 h2)⟩⟩) hS.2.2 (Nat.le_of_ble_eq_true rfl) (Nat.le_of_ble_eq_true rfl)
    · rw [if_neg c2] at hf
      obtain ⟨sa, hsa⟩ := hZ.2.2.1 ("MasterKeys", 110, "tries are 0 .. 200000") (by decide +kernel)
      rw [← hQ]
      exact vx_throwS hx hb hlt hown (by decide +kernel) (by decide +kernel) (ht _ mK_MK_87) (ht _ mN_IAE) hsa (th_at1 ht hZ.2.2.2.1) th_good1 hZ.1 hZ.2.1 hS (hl.1.trans hml.symm) d_MK_run_10 d_MK_run_13 d_MK_run_14 d_MK_run_16 d_MK_run_19 (fun x hx9 => (hnoex x hx9).elim) (Nat.le_of_ble_eq_true rfl) (Nat.le_of_ble_eq_true rfl) (Nat.le_of_ble_eq_true rfl) (Nat.le_of_ble_eq_true rfl) hlocks (fun t ha hz hk => ⟨1, ⟨hf.symm, Or.inl rfl⟩, ⟨rfl, hP.kept (fun k9 q9 h9 => hk _ (hP k9 q9 h9).lt), va_K.moved ha hK⟩, ⟨Nat.le_trans hS.1 hz, fun q h1 h2 => (hk q (Nat.lt_of_lt_of_le h1 hS.1)).trans (hS.2.1 q h1 h2)⟩⟩) hS.2.2 (Nat.le_of_ble_eq_true rfl) (Nat.le_of_ble_eq_true rfl)
set_option maxHeartbeats 4000000 in
set_option maxRecDepth 100000 in
theorem c_MK_needPin (l : Launch) (hlt : l.stackTraces = false) (D : va_G) (cA : Nat → ClassId) (ad : Nat → Nat) (hI : InjA ad) (sz : Nat) (a1 : Int32) (S : SS) (hs : f_MK_needPin a1 S ≠ none) : vx_Met l y_MK_needPin w_MK_needPin ({ frames := 6, cells := 1, slots := 6, locals := 90 }) (va_Pc [.ref (ad 0), .int a1] (fun U => U.heap.size = sz ∧ va_P D vwCl (X cA ad S) U.heap ∧ va_K D vwCl (tysX cA) U ∧ ZX (AS ad sz) U)) (va_Qv (fun (_ : Unit) => f_MK_needPin a1 S = some (.inr ())) (fun (_ : Unit) t => va_P D vwCl (X cA ad S) t.heap ∧ va_K D vwCl (tysX cA) t) (AS ad sz)) (vx_X (fun (k : Nat) => f_MK_needPin a1 S = some (.inl k) ∧ (k = 1)) (fun E k t => E = exN k ∧ va_P D vwCl (X cA ad S) t.heap ∧ va_K D vwCl (tysX cA) t) (AS ad sz)) 1 6 (AS ad sz) := by
  refine vx_ofW (cc := b_MK_needPin) (maxL := 2) (ret := none) (by decide) rfl ?_
  intro p e s m args below meth c s₁ B hml hnoex hv
  obtain ⟨rfl, hsz, hP, hK, hZ⟩ := hv
  have hx := B.exec
  have hb := B.bytes
  have hr := B.returns
  have hts := atoms_spec (ws := w_MK_needPin) B.pre
  have ht := fun w h => hts w (List.mem_cons_of_mem _ h)
  have hown : s.vm.findClass R_MK = some m.cls := findClass_of_methodNamed B.named
  have hlocks := B.notSynchronized
  subst hsz
  have hAd : ∀ q, q < NP → AS ad s.heap.size (ad q) := fun q h => Or.inl ⟨q, h, rfl⟩
  have hA : ∀ q : Nat, s.heap.size ≤ q → AS ad s.heap.size q := fun q h => Or.inr h
  have hAS : ∀ z : Nat, s.heap.size ≤ z → ∀ q : Nat, AS ad z q → AS ad s.heap.size q := fun z h q hq => hq.elim Or.inl (fun g => Or.inr (Nat.le_trans h g))
  generalize hAe : AS ad s.heap.size = A at hAd hA hAS hZ ⊢
  have hS : va_S A s.heap s.heap [] := va_S.rf
  have hl := lv_entry ([.ref (ad 0), .int a1]) (n := 2) (Nat.le_of_ble_eq_true rfl)
  rw [lg_entry_eq]
  generalize (lg_sl ([.ref (ad 0), .int a1]) ++ List.replicate (2 - (lg_sl ([.ref (ad 0), .int a1])).length) Slot.unset).toArray = ls at hl ⊢
  have hl : lv_has ls 2 [(0, .ref (ad 0)), (1, .int a1)] := hl
  have hf := (f_MK_needPin_s a1 S).symm
  generalize hQ : vx_MQ below _ _ _ s _ _ _ = Q
  refine lv_iload_n hx hb d_MK_needPin_0 rfl (lv_at hl 1 rfl) ?_
  refine lv_if_lt (tgt := 15) hx hb d_MK_needPin_1 (by decide) (fun c1 => ?_) (fun c1 => ?_)
  · rw [if_pos c1] at hf
    obtain ⟨sa, hsa⟩ := hZ.2.2.1 ("MasterKeys", 169, "there is no such pin") (by decide +kernel)
    rw [← hQ]
    exact vx_throwS hx hb hlt hown (by decide +kernel) (by decide +kernel) (ht _ mK_MK_87) (ht _ mN_IAE) hsa (th_at1 ht hZ.2.2.2.1) th_good1 hZ.1 hZ.2.1 hS (hl.1.trans hml.symm) d_MK_needPin_15 d_MK_needPin_18 d_MK_needPin_19 d_MK_needPin_21 d_MK_needPin_24 (fun x hx9 => (hnoex x hx9).elim) (Nat.le_of_ble_eq_true rfl) (Nat.le_of_ble_eq_true rfl) (Nat.le_of_ble_eq_true rfl) (Nat.le_of_ble_eq_true rfl) hlocks (fun t ha hz hk => ⟨1, ⟨hf.symm, rfl⟩, ⟨rfl, hP.kept (fun k9 q9 h9 => hk _ (hP k9 q9 h9).lt), va_K.moved ha hK⟩, ⟨Nat.le_trans hS.1 hz, fun q h1 h2 => (hk q (Nat.lt_of_lt_of_le h1 hS.1)).trans (hS.2.1 q h1 h2)⟩⟩) hS.2.2 (Nat.le_of_ble_eq_true rfl) (Nat.le_of_ble_eq_true rfl)
  · rw [if_neg c1] at hf
    refine lv_iload_n hx hb d_MK_needPin_4 rfl (lv_at hl 1 rfl) ?_
    refine lv_aload_n hx hb d_MK_needPin_5 rfl (lv_at hl 0 rfl) ?_
    refine va_get (D := D) (ci := 0) (v := .ref (ad 1)) (C := R_MK) (T := T_MK) (N := 5) hx hb ht i_MK hown hK hP 0 Xa_0 rfl 0 (by decide) (ht _ mF_MK_23) (fun _ h9 => h9) rfl d_MK_needPin_6 ?_
    refine va_get (D := D) (ci := 1) (v := .int (S.1 1 0)) (C := R_Law) (T := T_Law) (N := 5) hx hb ht i_Law hown hK hP 1 Xa_1 rfl 0 (by decide) (ht _ mF_MK_166) (fun _ h9 => h9) rfl d_MK_needPin_9 ?_
    refine lv_icmp_lt (tgt := 25) hx hb d_MK_needPin_12 (by decide) (fun c2 => ?_) (fun c2 => ?_)
    · rw [if_pos c2] at hf
      refine W.widen (k := 1) (n := 6) (by decide) (by decide) ?_
      rw [← hQ]
      refine vx_ret ?_
      exact W.vret hx hb hr (fun t ht hW => ⟨⟨(), rfl, hf.symm, by rw [ht]; exact hP, va_K.moved hW.alike hK⟩, hS.F ht⟩) hS.2.2 d_MK_needPin_25
    · rw [if_neg c2] at hf
      obtain ⟨sa, hsa⟩ := hZ.2.2.1 ("MasterKeys", 169, "there is no such pin") (by decide +kernel)
      rw [← hQ]
      exact vx_throwS hx hb hlt hown (by decide +kernel) (by decide +kernel) (ht _ mK_MK_87) (ht _ mN_IAE) hsa (th_at1 ht hZ.2.2.2.1) th_good1 hZ.1 hZ.2.1 hS (hl.1.trans hml.symm) d_MK_needPin_15 d_MK_needPin_18 d_MK_needPin_19 d_MK_needPin_21 d_MK_needPin_24 (fun x hx9 => (hnoex x hx9).elim) (Nat.le_of_ble_eq_true rfl) (Nat.le_of_ble_eq_true rfl) (Nat.le_of_ble_eq_true rfl) (Nat.le_of_ble_eq_true rfl) hlocks (fun t ha hz hk => ⟨1, ⟨hf.symm, rfl⟩, ⟨rfl, hP.kept (fun k9 q9 h9 => hk _ (hP k9 q9 h9).lt), va_K.moved ha hK⟩, ⟨Nat.le_trans hS.1 hz, fun q h1 h2 => (hk q (Nat.lt_of_lt_of_le h1 hS.1)).trans (hS.2.1 q h1 h2)⟩⟩) hS.2.2 (Nat.le_of_ble_eq_true rfl) (Nat.le_of_ble_eq_true rfl)
set_option maxHeartbeats 4000000 in
set_option maxRecDepth 100000 in
theorem c_MK_cut (l : Launch) (hlt : l.stackTraces = false) (D : va_G) (cA : Nat → ClassId) (ad : Nat → Nat) (hI : InjA ad) (sz : Nat) (a1 : Int32) (a2 : Int32) (S : SS) (hs : f_MK_cut a1 a2 S ≠ none) : vx_Met l y_MK_cut w_MK_cut ({ frames := 7, cells := 2, slots := 12, locals := 111 }) (va_Pc [.ref (ad 0), .int a1, .int a2] (fun U => U.heap.size = sz ∧ va_P D vwCl (X cA ad S) U.heap ∧ va_K D vwCl (tysX cA) U ∧ ZX (AS ad sz) U)) (va_Qi (fun (r : Int32) (_ : Unit) => f_MK_cut a1 a2 S = some (.inr r)) (fun (_ : Unit) t => va_P D vwCl (X cA ad S) t.heap ∧ va_K D vwCl (tysX cA) t) (AS ad sz)) (vx_X (fun (k : Nat) => f_MK_cut a1 a2 S = some (.inl k) ∧ (k = 1)) (fun E k t => E = exN k ∧ va_P D vwCl (X cA ad S) t.heap ∧ va_K D vwCl (tysX cA) t) (AS ad sz)) 2 12 (AS ad sz) := by
  refine vx_ofW (cc := b_MK_cut) (maxL := 3) (ret := (some .int)) (by decide) rfl ?_
  intro p e s m args below meth c s₁ B hml hnoex hv
  obtain ⟨rfl, hsz, hP, hK, hZ⟩ := hv
  have hx := B.exec
  have hb := B.bytes
  have hr := B.returns
  have hts := atoms_spec (ws := w_MK_cut) B.pre
  have ht := fun w h => hts w (List.mem_cons_of_mem _ h)
  have hown : s.vm.findClass R_MK = some m.cls := findClass_of_methodNamed B.named
  have hlocks := B.notSynchronized
  subst hsz
  have hAd : ∀ q, q < NP → AS ad s.heap.size (ad q) := fun q h => Or.inl ⟨q, h, rfl⟩
  have hA : ∀ q : Nat, s.heap.size ≤ q → AS ad s.heap.size q := fun q h => Or.inr h
  have hAS : ∀ z : Nat, s.heap.size ≤ z → ∀ q : Nat, AS ad z q → AS ad s.heap.size q := fun z h q hq => hq.elim Or.inl (fun g => Or.inr (Nat.le_trans h g))
  generalize hAe : AS ad s.heap.size = A at hAd hA hAS hZ ⊢
  have hS : va_S A s.heap s.heap [] := va_S.rf
  have hl := lv_entry ([.ref (ad 0), .int a1, .int a2]) (n := 3) (Nat.le_of_ble_eq_true rfl)
  rw [lg_entry_eq]
  generalize (lg_sl ([.ref (ad 0), .int a1, .int a2]) ++ List.replicate (3 - (lg_sl ([.ref (ad 0), .int a1, .int a2])).length) Slot.unset).toArray = ls at hl ⊢
  have hl : lv_has ls 3 [(0, .ref (ad 0)), (1, .int a1), (2, .int a2)] := hl
  have hf := (f_MK_cut_s a1 a2 S).symm
  generalize hQ : vx_MQ below _ _ _ s _ _ _ = Q
  refine lv_aload_n hx hb d_MK_cut_0 rfl (lv_at hl 0 rfl) ?_
  refine lv_iload_n hx hb d_MK_cut_1 rfl (lv_at hl 1 rfl) ?_
  refine vx_callv (vx_runV (As := [.int a1]) (rest := []) ⟨hx, hb, hml, hown, ht⟩ (c_MK_needKey l hlt D cA ad hI s.heap.size a1 S (fun hn => hs (by rw [hn] at hf; exact hf.symm))) (cwV 1 ht (good_G (gV mM_MK_72 mI_MK_needKey mV_MK_needKey mN_MK mk_MK_needKey)) rfl rfl rfl (by decide +kernel) ⟨Nat.le_of_ble_eq_true rfl, Nat.le_of_ble_eq_true rfl⟩) ⟨fun a U g mk q => ⟨q.1, q.2.1, q.2.2.1, va_K.moved (u := U) (U := U.calling g mk a) (Vm.Alike.refl U.vm) q.2.2.2.1, ZX.call q.2.2.2.2⟩, va_recv hK hP (ci := 0) (q0 := 0) rfl Xa_0, fun U hU hW => ⟨rfl, by rw [hU], by rw [hU]; exact hP, va_K.moved hW.alike hK, hZ.to hS (hAS _ hS.1) hU hW⟩⟩ rfl rfl hl.1 rfl (lv_room (Nat.le_of_ble_eq_true rfl)) d_MK_cut_2 ⟨Nat.le_of_ble_eq_true rfl, Nat.le_of_ble_eq_true rfl⟩) hS (fun q _ h => hAS _ hS.1 q h) (fun q h => hAS _ hS.1 q h) (fun q _ h => hAS _ hS.1 q h) (fun E ce q9 kx tx H locs ht9 hvm9 hw9 hB9 hz9 hk9 hS hce hcv hcl => ?_) (fun _ t H locs ht9 hvm hw hB hz1 hk1 hS => ?_)
  · obtain ⟨hE9, hP, hK9⟩ := hB9
    rw [ht9] at hP
    obtain ⟨hw9, hk9⟩ := hw9
    rw [hw9, Option.bind_some, Sum.elim_inl] at hf
    rw [← hQ]
    exact vx_out (E := E) (fun x hx9 => (hnoex x hx9).elim) hlocks hce hcv hcl (fun t ht ha => ⟨kx, ⟨hf.symm, hk9⟩, ⟨hE9, by rw [ht]; exact hP, va_K.moved ha hK⟩, hS.F ht⟩) hS.2.2 (Nat.le_of_ble_eq_true rfl) (Nat.le_of_ble_eq_true rfl)
  obtain ⟨hP, hK9⟩ := hB
  rw [ht9] at hP
  rw [hw, Option.bind_some, Sum.elim_inr] at hf
  refine lv_aload_n hx hb d_MK_cut_5 rfl (lv_at hl 0 rfl) ?_
  refine lv_iload_n hx hb d_MK_cut_6 rfl (lv_at hl 2 rfl) ?_
  refine vx_callv (vx_runV (As := [.int a2]) (rest := []) ⟨hx, hb, hml, hown, ht⟩ (c_MK_needPin l hlt D cA ad hI H.size a2 S (fun hn => hs (by rw [hn] at hf; exact hf.symm))) (cwV 1 ht (good_G (gV mM_MK_121 mI_MK_needPin mV_MK_needPin mN_MK mk_MK_needPin)) rfl rfl rfl (by decide +kernel) ⟨Nat.le_of_ble_eq_true rfl, Nat.le_of_ble_eq_true rfl⟩) ⟨fun a U g mk q => ⟨q.1, q.2.1, q.2.2.1, va_K.moved (u := U) (U := U.calling g mk a) (Vm.Alike.refl U.vm) q.2.2.2.1, ZX.call q.2.2.2.2⟩, va_recv hK hP (ci := 0) (q0 := 0) rfl Xa_0, fun U hU hW => ⟨rfl, by rw [hU], by rw [hU]; exact hP, va_K.moved hW.alike hK, hZ.to hS (hAS _ hS.1) hU hW⟩⟩ rfl rfl hl.1 rfl (lv_room (Nat.le_of_ble_eq_true rfl)) d_MK_cut_7 ⟨Nat.le_of_ble_eq_true rfl, Nat.le_of_ble_eq_true rfl⟩) hS (fun q _ h => hAS _ hS.1 q h) (fun q h => hAS _ hS.1 q h) (fun q _ h => hAS _ hS.1 q h) (fun E ce q9 kx tx H locs ht9 hvm9 hw9 hB9 hz9 hk9 hS hce hcv hcl => ?_) (fun _ t H locs ht9 hvm hw hB hz1 hk1 hS => ?_)
  · obtain ⟨hE9, hP, hK9⟩ := hB9
    rw [ht9] at hP
    obtain ⟨hw9, hk9⟩ := hw9
    rw [hw9, Option.bind_some, Sum.elim_inl] at hf
    rw [← hQ]
    exact vx_out (E := E) (fun x hx9 => (hnoex x hx9).elim) hlocks hce hcv hcl (fun t ht ha => ⟨kx, ⟨hf.symm, hk9⟩, ⟨hE9, by rw [ht]; exact hP, va_K.moved ha hK⟩, hS.F ht⟩) hS.2.2 (Nat.le_of_ble_eq_true rfl) (Nat.le_of_ble_eq_true rfl)
  obtain ⟨hP, hK9⟩ := hB
  rw [ht9] at hP
  rw [hw, Option.bind_some, Sum.elim_inr] at hf
  refine lv_aload_n hx hb d_MK_cut_10 rfl (lv_at hl 0 rfl) ?_
  refine va_get (D := D) (ci := 0) (v := .int (S.1 0 4)) (C := R_MK) (T := T_MK) (N := 5) hx hb ht i_MK hown hK hP 0 Xa_0 rfl 4 (by decide) (ht _ mF_MK_63) (fun _ h9 => h9) rfl d_MK_cut_11 ?_
  refine lv_if_eq (tgt := 31) hx hb d_MK_cut_14 (by decide) (fun c1 => ?_) (fun c1 => ?_)
  · rw [if_pos c1] at hf
    refine lv_iconst (v := (-1)) hx hb d_MK_cut_31 (by decide) ?_
    rw [← hQ]
    refine vx_ret ?_
    exact W.iret (v := (-1 : Int32)) hx hb hr (fun t ht hW => ⟨⟨(-1 : Int32), (), rfl, hf.symm, by rw [ht]; exact hP, va_K.moved hW.alike hK⟩, hS.F ht⟩) hS.2.2 d_MK_cut_32
  · rw [if_neg c1] at hf
    refine lv_aload_n hx hb d_MK_cut_17 rfl (lv_at hl 0 rfl) ?_
    refine va_get (D := D) (ci := 0) (v := .ref (ad 2)) (C := R_MK) (T := T_MK) (N := 5) hx hb ht i_MK hown hK hP 0 Xa_0 rfl 1 (by decide) (ht _ mF_MK_32) (fun _ h9 => h9) rfl d_MK_cut_18 ?_
    refine va_get (D := D) (ci := 2) (v := .ref (ad 6)) (C := R_Board) (T := T_Board) (N := 7) hx hb ht i_Board hown hK hP 2 Xa_2 rfl 4 (by decide) (ht _ mF_MK_124) (fun _ h9 => h9) rfl d_MK_cut_21 ?_
    refine lv_iload_n hx hb d_MK_cut_24 rfl (lv_at hl 1 rfl) ?_
    by_cases b2 : oob a1 8
    · rw [if_pos b2] at hf; exact absurd hf.symm hs
    rw [if_neg b2] at hf
    refine gz_aald hx hb hK hP 6 2 Xa_6 rfl b2 d_MK_cut_25 ?_
    rw [X_row b2]
    refine lv_iload_n hx hb d_MK_cut_26 rfl (lv_at hl 2 rfl) ?_
    by_cases b3 : oob a2 6
    · rw [if_pos b3] at hf; exact absurd hf.symm hs
    rw [if_neg b3] at hf
    refine va_iald (f := S.1 (10 + a1.toNatClampNeg)) hx hb hK hP (10 + a1.toNatClampNeg) 0 (X_rowat6 b2) rfl b3 d_MK_cut_27 ?_
    refine lv_goto (tgt := 32) hx hb d_MK_cut_28 (by decide) ?_
    rw [← hQ]
    refine vx_ret ?_
    exact W.iret (v := S.1 (10 + a1.toNatClampNeg) a2.toNatClampNeg) hx hb hr (fun t ht hW => ⟨⟨S.1 (10 + a1.toNatClampNeg) a2.toNatClampNeg, (), rfl, hf.symm, by rw [ht]; exact hP, va_K.moved hW.alike hK⟩, hS.F ht⟩) hS.2.2 d_MK_cut_32
set_option maxHeartbeats 4000000 in
set_option maxRecDepth 100000 in
theorem c_MK_holds (l : Launch) (hlt : l.stackTraces = false) (D : va_G) (cA : Nat → ClassId) (ad : Nat → Nat) (hI : InjA ad) (sz : Nat) (a1 : Int32) (a2 : Int32) (a3 : Int32) (S : SS) (hs : f_MK_holds a1 a2 a3 S ≠ none) : vx_Met l y_MK_holds w_MK_holds ({ frames := 7, cells := 3, slots := 18, locals := 111 }) (va_Pc [.ref (ad 0), .int a1, .int a2, .int a3] (fun U => U.heap.size = sz ∧ va_P D vwCl (X cA ad S) U.heap ∧ va_K D vwCl (tysX cA) U ∧ ZX (AS ad sz) U)) (va_Qi (fun (r : Int32) (_ : Unit) => f_MK_holds a1 a2 a3 S = some (.inr r) ∧ (r = 0 ∨ r = 1)) (fun (_ : Unit) t => va_P D vwCl (X cA ad S) t.heap ∧ va_K D vwCl (tysX cA) t) (AS ad sz)) (vx_X (fun (k : Nat) => f_MK_holds a1 a2 a3 S = some (.inl k) ∧ (k = 1)) (fun E k t => E = exN k ∧ va_P D vwCl (X cA ad S) t.heap ∧ va_K D vwCl (tysX cA) t) (AS ad sz)) 3 18 (AS ad sz) := by
  refine vx_ofW (cc := b_MK_holds) (maxL := 4) (ret := (some .boolean)) (by decide) rfl ?_
  intro p e s m args below meth c s₁ B hml hnoex hv
  obtain ⟨rfl, hsz, hP, hK, hZ⟩ := hv
  have hx := B.exec
  have hb := B.bytes
  have hr := B.returns
  have hts := atoms_spec (ws := w_MK_holds) B.pre
  have ht := fun w h => hts w (List.mem_cons_of_mem _ h)
  have hown : s.vm.findClass R_MK = some m.cls := findClass_of_methodNamed B.named
  have hlocks := B.notSynchronized
  subst hsz
  have hAd : ∀ q, q < NP → AS ad s.heap.size (ad q) := fun q h => Or.inl ⟨q, h, rfl⟩
  have hA : ∀ q : Nat, s.heap.size ≤ q → AS ad s.heap.size q := fun q h => Or.inr h
  have hAS : ∀ z : Nat, s.heap.size ≤ z → ∀ q : Nat, AS ad z q → AS ad s.heap.size q := fun z h q hq => hq.elim Or.inl (fun g => Or.inr (Nat.le_trans h g))
  generalize hAe : AS ad s.heap.size = A at hAd hA hAS hZ ⊢
  have hS : va_S A s.heap s.heap [] := va_S.rf
  have hl := lv_entry ([.ref (ad 0), .int a1, .int a2, .int a3]) (n := 4) (Nat.le_of_ble_eq_true rfl)
  rw [lg_entry_eq]
  generalize (lg_sl ([.ref (ad 0), .int a1, .int a2, .int a3]) ++ List.replicate (4 - (lg_sl ([.ref (ad 0), .int a1, .int a2, .int a3])).length) Slot.unset).toArray = ls at hl ⊢
  have hl : lv_has ls 4 [(0, .ref (ad 0)), (1, .int a1), (2, .int a2), (3, .int a3)] := hl
  have hf := (f_MK_holds_s a1 a2 a3 S).symm
  generalize hQ : vx_MQ below _ _ _ s _ _ _ = Q
  refine lv_aload_n hx hb d_MK_holds_0 rfl (lv_at hl 0 rfl) ?_
  refine lv_iload_n hx hb d_MK_holds_1 rfl (lv_at hl 1 rfl) ?_
  refine vx_callv (vx_runV (As := [.int a1]) (rest := []) ⟨hx, hb, hml, hown, ht⟩ (c_MK_needDoor l hlt D cA ad hI s.heap.size a1 S (fun hn => hs (by rw [hn] at hf; exact hf.symm))) (cwV 1 ht (good_G (gV mM_MK_76 mI_MK_needDoor mV_MK_needDoor mN_MK mk_MK_needDoor)) rfl rfl rfl (by decide +kernel) ⟨Nat.le_of_ble_eq_true rfl, Nat.le_of_ble_eq_true rfl⟩) ⟨fun a U g mk q => ⟨q.1, q.2.1, q.2.2.1, va_K.moved (u := U) (U := U.calling g mk a) (Vm.Alike.refl U.vm) q.2.2.2.1, ZX.call q.2.2.2.2⟩, va_recv hK hP (ci := 0) (q0 := 0) rfl Xa_0, fun U hU hW => ⟨rfl, by rw [hU], by rw [hU]; exact hP, va_K.moved hW.alike hK, hZ.to hS (hAS _ hS.1) hU hW⟩⟩ rfl rfl hl.1 rfl (lv_room (Nat.le_of_ble_eq_true rfl)) d_MK_holds_2 ⟨Nat.le_of_ble_eq_true rfl, Nat.le_of_ble_eq_true rfl⟩) hS (fun q _ h => hAS _ hS.1 q h) (fun q h => hAS _ hS.1 q h) (fun q _ h => hAS _ hS.1 q h) (fun E ce q9 kx tx H locs ht9 hvm9 hw9 hB9 hz9 hk9 hS hce hcv hcl => ?_) (fun _ t H locs ht9 hvm hw hB hz1 hk1 hS => ?_)
  · obtain ⟨hE9, hP, hK9⟩ := hB9
    rw [ht9] at hP
    obtain ⟨hw9, hk9⟩ := hw9
    rw [hw9, Option.bind_some, Sum.elim_inl] at hf
    rw [← hQ]
    exact vx_out (E := E) (fun x hx9 => (hnoex x hx9).elim) hlocks hce hcv hcl (fun t ht ha => ⟨kx, ⟨hf.symm, hk9⟩, ⟨hE9, by rw [ht]; exact hP, va_K.moved ha hK⟩, hS.F ht⟩) hS.2.2 (Nat.le_of_ble_eq_true rfl) (Nat.le_of_ble_eq_true rfl)
  obtain ⟨hP, hK9⟩ := hB
  rw [ht9] at hP
  rw [hw, Option.bind_some, Sum.elim_inr] at hf
  refine lv_aload_n hx hb d_MK_holds_5 rfl (lv_at hl 0 rfl) ?_
  refine lv_iload_n hx hb d_MK_holds_6 rfl (lv_at hl 2 rfl) ?_
  refine vx_callv (vx_runV (As := [.int a2]) (rest := []) ⟨hx, hb, hml, hown, ht⟩ (c_MK_needPin l hlt D cA ad hI H.size a2 S (fun hn => hs (by rw [hn] at hf; exact hf.symm))) (cwV 1 ht (good_G (gV mM_MK_121 mI_MK_needPin mV_MK_needPin mN_MK mk_MK_needPin)) rfl rfl rfl (by decide +kernel) ⟨Nat.le_of_ble_eq_true rfl, Nat.le_of_ble_eq_true rfl⟩) ⟨fun a U g mk q => ⟨q.1, q.2.1, q.2.2.1, va_K.moved (u := U) (U := U.calling g mk a) (Vm.Alike.refl U.vm) q.2.2.2.1, ZX.call q.2.2.2.2⟩, va_recv hK hP (ci := 0) (q0 := 0) rfl Xa_0, fun U hU hW => ⟨rfl, by rw [hU], by rw [hU]; exact hP, va_K.moved hW.alike hK, hZ.to hS (hAS _ hS.1) hU hW⟩⟩ rfl rfl hl.1 rfl (lv_room (Nat.le_of_ble_eq_true rfl)) d_MK_holds_7 ⟨Nat.le_of_ble_eq_true rfl, Nat.le_of_ble_eq_true rfl⟩) hS (fun q _ h => hAS _ hS.1 q h) (fun q h => hAS _ hS.1 q h) (fun q _ h => hAS _ hS.1 q h) (fun E ce q9 kx tx H locs ht9 hvm9 hw9 hB9 hz9 hk9 hS hce hcv hcl => ?_) (fun _ t H locs ht9 hvm hw hB hz1 hk1 hS => ?_)
  · obtain ⟨hE9, hP, hK9⟩ := hB9
    rw [ht9] at hP
    obtain ⟨hw9, hk9⟩ := hw9
    rw [hw9, Option.bind_some, Sum.elim_inl] at hf
    rw [← hQ]
    exact vx_out (E := E) (fun x hx9 => (hnoex x hx9).elim) hlocks hce hcv hcl (fun t ht ha => ⟨kx, ⟨hf.symm, hk9⟩, ⟨hE9, by rw [ht]; exact hP, va_K.moved ha hK⟩, hS.F ht⟩) hS.2.2 (Nat.le_of_ble_eq_true rfl) (Nat.le_of_ble_eq_true rfl)
  obtain ⟨hP, hK9⟩ := hB
  rw [ht9] at hP
  rw [hw, Option.bind_some, Sum.elim_inr] at hf
  refine lv_aload_n hx hb d_MK_holds_10 rfl (lv_at hl 0 rfl) ?_
  refine lv_iload_n hx hb d_MK_holds_11 rfl (lv_at hl 3 rfl) ?_
  refine vx_callv (vx_runV (As := [.int a3]) (rest := []) ⟨hx, hb, hml, hown, ht⟩ (c_MK_needDepth l hlt D cA ad hI H.size a3 S (fun hn => hs (by rw [hn] at hf; exact hf.symm))) (cwV 1 ht (good_G (gV mM_MK_95 mI_MK_needDepth mV_MK_needDepth mN_MK mk_MK_needDepth)) rfl rfl rfl (by decide +kernel) ⟨Nat.le_of_ble_eq_true rfl, Nat.le_of_ble_eq_true rfl⟩) ⟨fun a U g mk q => ⟨q.1, q.2.1, q.2.2.1, va_K.moved (u := U) (U := U.calling g mk a) (Vm.Alike.refl U.vm) q.2.2.2.1, ZX.call q.2.2.2.2⟩, va_recv hK hP (ci := 0) (q0 := 0) rfl Xa_0, fun U hU hW => ⟨rfl, by rw [hU], by rw [hU]; exact hP, va_K.moved hW.alike hK, hZ.to hS (hAS _ hS.1) hU hW⟩⟩ rfl rfl hl.1 rfl (lv_room (Nat.le_of_ble_eq_true rfl)) d_MK_holds_12 ⟨Nat.le_of_ble_eq_true rfl, Nat.le_of_ble_eq_true rfl⟩) hS (fun q _ h => hAS _ hS.1 q h) (fun q h => hAS _ hS.1 q h) (fun q _ h => hAS _ hS.1 q h) (fun E ce q9 kx tx H locs ht9 hvm9 hw9 hB9 hz9 hk9 hS hce hcv hcl => ?_) (fun _ t H locs ht9 hvm hw hB hz1 hk1 hS => ?_)
  · obtain ⟨hE9, hP, hK9⟩ := hB9
    rw [ht9] at hP
    obtain ⟨hw9, hk9⟩ := hw9
    rw [hw9, Option.bind_some, Sum.elim_inl] at hf
    rw [← hQ]
    exact vx_out (E := E) (fun x hx9 => (hnoex x hx9).elim) hlocks hce hcv hcl (fun t ht ha => ⟨kx, ⟨hf.symm, hk9⟩, ⟨hE9, by rw [ht]; exact hP, va_K.moved ha hK⟩, hS.F ht⟩) hS.2.2 (Nat.le_of_ble_eq_true rfl) (Nat.le_of_ble_eq_true rfl)
  obtain ⟨hP, hK9⟩ := hB
  rw [ht9] at hP
  rw [hw, Option.bind_some, Sum.elim_inr] at hf
  refine lv_aload_n hx hb d_MK_holds_15 rfl (lv_at hl 0 rfl) ?_
  refine va_get (D := D) (ci := 0) (v := .int (S.1 0 4)) (C := R_MK) (T := T_MK) (N := 5) hx hb ht i_MK hown hK hP 0 Xa_0 rfl 4 (by decide) (ht _ mF_MK_63) (fun _ h9 => h9) rfl d_MK_holds_16 ?_
  refine lv_if_eq (tgt := 42) hx hb d_MK_holds_19 (by decide) (fun c1 => ?_) (fun c1 => ?_)
  · rw [if_pos c1] at hf
    refine lv_iconst (v := 0) hx hb d_MK_holds_42 (by decide) ?_
    rw [← hQ]
    refine vx_ret ?_
    have hz : (0 : Int32) = 0 ∨ (0 : Int32) = 1 := Or.inl rfl
    exact W.zret (v := (0 : Int32)) hx hb hr (zb_n hz) (fun t ht hW => ⟨⟨(0 : Int32), (), rfl, ⟨hf.symm, hz⟩, by rw [ht]; exact hP, va_K.moved hW.alike hK⟩, hS.F ht⟩) hS.2.2 d_MK_holds_43
  · rw [if_neg c1] at hf
    refine lv_aload_n hx hb d_MK_holds_22 rfl (lv_at hl 0 rfl) ?_
    refine va_get (D := D) (ci := 0) (v := .ref (ad 2)) (C := R_MK) (T := T_MK) (N := 5) hx hb ht i_MK hown hK hP 0 Xa_0 rfl 1 (by decide) (ht _ mF_MK_32) (fun _ h9 => h9) rfl d_MK_holds_23 ?_
    refine lv_iload_n hx hb d_MK_holds_26 rfl (lv_at hl 2 rfl) ?_
    refine lv_iload_n hx hb d_MK_holds_27 rfl (lv_at hl 3 rfl) ?_
    refine va_calli (va_runV (As := [.int a2, .int a3]) (rest := []) ⟨hx, hb, hml, hown, ht⟩ (c_Board_doorsHolding l D cA ad hI H.size a2 a3 S (fun hn => hs (by rw [hn] at hf; exact hf.symm))) (cwV 2 ht (good_G (gV mM_MK_128 mI_Board_doorsHolding mV_Board_doorsHolding mN_Board mk_Board_doorsHolding)) rfl rfl rfl (by decide +kernel) ⟨Nat.le_of_ble_eq_true rfl, Nat.le_of_ble_eq_true rfl⟩) ⟨fun a U g mk q => ⟨q.1, q.2.1, q.2.2.1, va_K.moved (u := U) (U := U.calling g mk a) (Vm.Alike.refl U.vm) q.2.2.2⟩, va_recv hK hP (ci := 2) (q0 := 2) rfl Xa_2, fun U hU hW => ⟨rfl, by rw [hU], by rw [hU]; exact hP, va_K.moved hW.alike hK⟩⟩ rfl rfl hl.1 rfl (lv_room (Nat.le_of_ble_eq_true rfl)) d_MK_holds_28 ⟨Nat.le_of_ble_eq_true rfl, Nat.le_of_ble_eq_true rfl⟩) hS (fun q _ h => hAS _ hS.1 q h) (fun q h => hAS _ hS.1 q h) (fun r4 _ t H locs ht9 hvm hw hB hz1 hk1 hS => ?_)
    obtain ⟨hP, hK9⟩ := hB
    rw [ht9] at hP
    rw [hw, Option.bind_some] at hf
    refine lv_iload_n hx hb d_MK_holds_31 rfl (lv_at hl 1 rfl) ?_
    refine lv_ishr hx hb d_MK_holds_32 ?_
    refine lv_iconst (v := 1) hx hb d_MK_holds_33 (by decide) ?_
    refine lv_iand hx hb d_MK_holds_34 ?_
    refine lv_if_eq (tgt := 42) hx hb d_MK_holds_35 (by decide) (fun c2 => ?_) (fun c2 => ?_)
    · rw [if_pos c2] at hf
      refine lv_iconst (v := 0) hx hb d_MK_holds_42 (by decide) ?_
      rw [← hQ]
      refine vx_ret ?_
      have hz : (0 : Int32) = 0 ∨ (0 : Int32) = 1 := Or.inl rfl
      exact W.zret (v := (0 : Int32)) hx hb hr (zb_n hz) (fun t ht hW => ⟨⟨(0 : Int32), (), rfl, ⟨hf.symm, hz⟩, by rw [ht]; exact hP, va_K.moved hW.alike hK⟩, hS.F ht⟩) hS.2.2 d_MK_holds_43
    · rw [if_neg c2] at hf
      refine lv_iconst (v := 1) hx hb d_MK_holds_38 (by decide) ?_
      refine lv_goto (tgt := 43) hx hb d_MK_holds_39 (by decide) ?_
      rw [← hQ]
      refine vx_ret ?_
      have hz : (1 : Int32) = 0 ∨ (1 : Int32) = 1 := Or.inr rfl
      exact W.zret (v := (1 : Int32)) hx hb hr (zb_n hz) (fun t ht hW => ⟨⟨(1 : Int32), (), rfl, ⟨hf.symm, hz⟩, by rw [ht]; exact hP, va_K.moved hW.alike hK⟩, hS.F ht⟩) hS.2.2 d_MK_holds_43
set_option maxHeartbeats 4000000 in
set_option maxRecDepth 100000 in
theorem c_MK_fits (l : Launch) (hlt : l.stackTraces = false) (D : va_G) (cA : Nat → ClassId) (ad : Nat → Nat) (hI : InjA ad) (sz : Nat) (a1 : Int32) (a2 : Int32) (S : SS) (hs : f_MK_fits a1 a2 S ≠ none) : vx_Met l y_MK_fits w_MK_fits ({ frames := 7, cells := 2, slots := 12, locals := 111 }) (va_Pc [.ref (ad 0), .int a1, .int a2] (fun U => U.heap.size = sz ∧ va_P D vwCl (X cA ad S) U.heap ∧ va_K D vwCl (tysX cA) U ∧ ZX (AS ad sz) U)) (va_Qi (fun (r : Int32) (_ : Unit) => f_MK_fits a1 a2 S = some (.inr r) ∧ (r = 0 ∨ r = 1)) (fun (_ : Unit) t => va_P D vwCl (X cA ad S) t.heap ∧ va_K D vwCl (tysX cA) t) (AS ad sz)) (vx_X (fun (k : Nat) => f_MK_fits a1 a2 S = some (.inl k) ∧ (k = 1)) (fun E k t => E = exN k ∧ va_P D vwCl (X cA ad S) t.heap ∧ va_K D vwCl (tysX cA) t) (AS ad sz)) 2 12 (AS ad sz) := by
  refine vx_ofW (cc := b_MK_fits) (maxL := 3) (ret := (some .boolean)) (by decide) rfl ?_
  intro p e s m args below meth c s₁ B hml hnoex hv
  obtain ⟨rfl, hsz, hP, hK, hZ⟩ := hv
  have hx := B.exec
  have hb := B.bytes
  have hr := B.returns
  have hts := atoms_spec (ws := w_MK_fits) B.pre
  have ht := fun w h => hts w (List.mem_cons_of_mem _ h)
  have hown : s.vm.findClass R_MK = some m.cls := findClass_of_methodNamed B.named
  have hlocks := B.notSynchronized
  subst hsz
  have hAd : ∀ q, q < NP → AS ad s.heap.size (ad q) := fun q h => Or.inl ⟨q, h, rfl⟩
  have hA : ∀ q : Nat, s.heap.size ≤ q → AS ad s.heap.size q := fun q h => Or.inr h
  have hAS : ∀ z : Nat, s.heap.size ≤ z → ∀ q : Nat, AS ad z q → AS ad s.heap.size q := fun z h q hq => hq.elim Or.inl (fun g => Or.inr (Nat.le_trans h g))
  generalize hAe : AS ad s.heap.size = A at hAd hA hAS hZ ⊢
  have hS : va_S A s.heap s.heap [] := va_S.rf
  have hl := lv_entry ([.ref (ad 0), .int a1, .int a2]) (n := 3) (Nat.le_of_ble_eq_true rfl)
  rw [lg_entry_eq]
  generalize (lg_sl ([.ref (ad 0), .int a1, .int a2]) ++ List.replicate (3 - (lg_sl ([.ref (ad 0), .int a1, .int a2])).length) Slot.unset).toArray = ls at hl ⊢
  have hl : lv_has ls 3 [(0, .ref (ad 0)), (1, .int a1), (2, .int a2)] := hl
  have hf := (f_MK_fits_s a1 a2 S).symm
  generalize hQ : vx_MQ below _ _ _ s _ _ _ = Q
  refine lv_aload_n hx hb d_MK_fits_0 rfl (lv_at hl 0 rfl) ?_
  refine lv_iload_n hx hb d_MK_fits_1 rfl (lv_at hl 1 rfl) ?_
  refine vx_callv (vx_runV (As := [.int a1]) (rest := []) ⟨hx, hb, hml, hown, ht⟩ (c_MK_needKey l hlt D cA ad hI s.heap.size a1 S (fun hn => hs (by rw [hn] at hf; exact hf.symm))) (cwV 1 ht (good_G (gV mM_MK_72 mI_MK_needKey mV_MK_needKey mN_MK mk_MK_needKey)) rfl rfl rfl (by decide +kernel) ⟨Nat.le_of_ble_eq_true rfl, Nat.le_of_ble_eq_true rfl⟩) ⟨fun a U g mk q => ⟨q.1, q.2.1, q.2.2.1, va_K.moved (u := U) (U := U.calling g mk a) (Vm.Alike.refl U.vm) q.2.2.2.1, ZX.call q.2.2.2.2⟩, va_recv hK hP (ci := 0) (q0 := 0) rfl Xa_0, fun U hU hW => ⟨rfl, by rw [hU], by rw [hU]; exact hP, va_K.moved hW.alike hK, hZ.to hS (hAS _ hS.1) hU hW⟩⟩ rfl rfl hl.1 rfl (lv_room (Nat.le_of_ble_eq_true rfl)) d_MK_fits_2 ⟨Nat.le_of_ble_eq_true rfl, Nat.le_of_ble_eq_true rfl⟩) hS (fun q _ h => hAS _ hS.1 q h) (fun q h => hAS _ hS.1 q h) (fun q _ h => hAS _ hS.1 q h) (fun E ce q9 kx tx H locs ht9 hvm9 hw9 hB9 hz9 hk9 hS hce hcv hcl => ?_) (fun _ t H locs ht9 hvm hw hB hz1 hk1 hS => ?_)
  · obtain ⟨hE9, hP, hK9⟩ := hB9
    rw [ht9] at hP
    obtain ⟨hw9, hk9⟩ := hw9
    rw [hw9, Option.bind_some, Sum.elim_inl] at hf
    rw [← hQ]
    exact vx_out (E := E) (fun x hx9 => (hnoex x hx9).elim) hlocks hce hcv hcl (fun t ht ha => ⟨kx, ⟨hf.symm, hk9⟩, ⟨hE9, by rw [ht]; exact hP, va_K.moved ha hK⟩, hS.F ht⟩) hS.2.2 (Nat.le_of_ble_eq_true rfl) (Nat.le_of_ble_eq_true rfl)
  obtain ⟨hP, hK9⟩ := hB
  rw [ht9] at hP
  rw [hw, Option.bind_some, Sum.elim_inr] at hf
  refine lv_aload_n hx hb d_MK_fits_5 rfl (lv_at hl 0 rfl) ?_
  refine lv_iload_n hx hb d_MK_fits_6 rfl (lv_at hl 2 rfl) ?_
  refine vx_callv (vx_runV (As := [.int a2]) (rest := []) ⟨hx, hb, hml, hown, ht⟩ (c_MK_needDoor l hlt D cA ad hI H.size a2 S (fun hn => hs (by rw [hn] at hf; exact hf.symm))) (cwV 1 ht (good_G (gV mM_MK_76 mI_MK_needDoor mV_MK_needDoor mN_MK mk_MK_needDoor)) rfl rfl rfl (by decide +kernel) ⟨Nat.le_of_ble_eq_true rfl, Nat.le_of_ble_eq_true rfl⟩) ⟨fun a U g mk q => ⟨q.1, q.2.1, q.2.2.1, va_K.moved (u := U) (U := U.calling g mk a) (Vm.Alike.refl U.vm) q.2.2.2.1, ZX.call q.2.2.2.2⟩, va_recv hK hP (ci := 0) (q0 := 0) rfl Xa_0, fun U hU hW => ⟨rfl, by rw [hU], by rw [hU]; exact hP, va_K.moved hW.alike hK, hZ.to hS (hAS _ hS.1) hU hW⟩⟩ rfl rfl hl.1 rfl (lv_room (Nat.le_of_ble_eq_true rfl)) d_MK_fits_7 ⟨Nat.le_of_ble_eq_true rfl, Nat.le_of_ble_eq_true rfl⟩) hS (fun q _ h => hAS _ hS.1 q h) (fun q h => hAS _ hS.1 q h) (fun q _ h => hAS _ hS.1 q h) (fun E ce q9 kx tx H locs ht9 hvm9 hw9 hB9 hz9 hk9 hS hce hcv hcl => ?_) (fun _ t H locs ht9 hvm hw hB hz1 hk1 hS => ?_)
  · obtain ⟨hE9, hP, hK9⟩ := hB9
    rw [ht9] at hP
    obtain ⟨hw9, hk9⟩ := hw9
    rw [hw9, Option.bind_some, Sum.elim_inl] at hf
    rw [← hQ]
    exact vx_out (E := E) (fun x hx9 => (hnoex x hx9).elim) hlocks hce hcv hcl (fun t ht ha => ⟨kx, ⟨hf.symm, hk9⟩, ⟨hE9, by rw [ht]; exact hP, va_K.moved ha hK⟩, hS.F ht⟩) hS.2.2 (Nat.le_of_ble_eq_true rfl) (Nat.le_of_ble_eq_true rfl)
  obtain ⟨hP, hK9⟩ := hB
  rw [ht9] at hP
  rw [hw, Option.bind_some, Sum.elim_inr] at hf
  refine lv_aload_n hx hb d_MK_fits_10 rfl (lv_at hl 0 rfl) ?_
  refine va_get (D := D) (ci := 0) (v := .int (S.1 0 4)) (C := R_MK) (T := T_MK) (N := 5) hx hb ht i_MK hown hK hP 0 Xa_0 rfl 4 (by decide) (ht _ mF_MK_63) (fun _ h9 => h9) rfl d_MK_fits_11 ?_
  refine lv_if_eq (tgt := 36) hx hb d_MK_fits_14 (by decide) (fun c1 => ?_) (fun c1 => ?_)
  · rw [if_pos c1] at hf
    refine lv_iconst (v := 0) hx hb d_MK_fits_36 (by decide) ?_
    rw [← hQ]
    refine vx_ret ?_
    have hz : (0 : Int32) = 0 ∨ (0 : Int32) = 1 := Or.inl rfl
    exact W.zret (v := (0 : Int32)) hx hb hr (zb_n hz) (fun t ht hW => ⟨⟨(0 : Int32), (), rfl, ⟨hf.symm, hz⟩, by rw [ht]; exact hP, va_K.moved hW.alike hK⟩, hS.F ht⟩) hS.2.2 d_MK_fits_37
  · rw [if_neg c1] at hf
    refine lv_aload_n hx hb d_MK_fits_17 rfl (lv_at hl 0 rfl) ?_
    refine va_get (D := D) (ci := 0) (v := .ref (ad 2)) (C := R_MK) (T := T_MK) (N := 5) hx hb ht i_MK hown hK hP 0 Xa_0 rfl 1 (by decide) (ht _ mF_MK_32) (fun _ h9 => h9) rfl d_MK_fits_18 ?_
    refine lv_iload_n hx hb d_MK_fits_21 rfl (lv_at hl 1 rfl) ?_
    refine va_calli (va_runV (As := [.int a1]) (rest := []) ⟨hx, hb, hml, hown, ht⟩ (c_Board_doorsOf l D cA ad hI H.size a1 S (fun hn => hs (by rw [hn] at hf; exact hf.symm))) (cwV 1 ht (good_G (gV mM_MK_131 mI_Board_doorsOf mV_Board_doorsOf mN_Board mk_Board_doorsOf)) rfl rfl rfl (by decide +kernel) ⟨Nat.le_of_ble_eq_true rfl, Nat.le_of_ble_eq_true rfl⟩) ⟨fun a U g mk q => ⟨q.1, q.2.1, q.2.2.1, va_K.moved (u := U) (U := U.calling g mk a) (Vm.Alike.refl U.vm) q.2.2.2⟩, va_recv hK hP (ci := 2) (q0 := 2) rfl Xa_2, fun U hU hW => ⟨rfl, by rw [hU], by rw [hU]; exact hP, va_K.moved hW.alike hK⟩⟩ rfl rfl hl.1 rfl (lv_room (Nat.le_of_ble_eq_true rfl)) d_MK_fits_22 ⟨Nat.le_of_ble_eq_true rfl, Nat.le_of_ble_eq_true rfl⟩) hS (fun q _ h => hAS _ hS.1 q h) (fun q h => hAS _ hS.1 q h) (fun r3 _ t H locs ht9 hvm hw hB hz1 hk1 hS => ?_)
    obtain ⟨hP, hK9⟩ := hB
    rw [ht9] at hP
    rw [hw, Option.bind_some] at hf
    refine lv_iload_n hx hb d_MK_fits_25 rfl (lv_at hl 2 rfl) ?_
    refine lv_ishr hx hb d_MK_fits_26 ?_
    refine lv_iconst (v := 1) hx hb d_MK_fits_27 (by decide) ?_
    refine lv_iand hx hb d_MK_fits_28 ?_
    refine lv_if_eq (tgt := 36) hx hb d_MK_fits_29 (by decide) (fun c2 => ?_) (fun c2 => ?_)
    · rw [if_pos c2] at hf
      refine lv_iconst (v := 0) hx hb d_MK_fits_36 (by decide) ?_
      rw [← hQ]
      refine vx_ret ?_
      have hz : (0 : Int32) = 0 ∨ (0 : Int32) = 1 := Or.inl rfl
      exact W.zret (v := (0 : Int32)) hx hb hr (zb_n hz) (fun t ht hW => ⟨⟨(0 : Int32), (), rfl, ⟨hf.symm, hz⟩, by rw [ht]; exact hP, va_K.moved hW.alike hK⟩, hS.F ht⟩) hS.2.2 d_MK_fits_37
    · rw [if_neg c2] at hf
      refine lv_iconst (v := 1) hx hb d_MK_fits_32 (by decide) ?_
      refine lv_goto (tgt := 37) hx hb d_MK_fits_33 (by decide) ?_
      rw [← hQ]
      refine vx_ret ?_
      have hz : (1 : Int32) = 0 ∨ (1 : Int32) = 1 := Or.inr rfl
      exact W.zret (v := (1 : Int32)) hx hb hr (zb_n hz) (fun t ht hW => ⟨⟨(1 : Int32), (), rfl, ⟨hf.symm, hz⟩, by rw [ht]; exact hP, va_K.moved hW.alike hK⟩, hS.F ht⟩) hS.2.2 d_MK_fits_37
set_option maxHeartbeats 4000000 in
set_option maxRecDepth 100000 in
theorem c_MK_needPlan (l : Launch) (hlt : l.stackTraces = false) (D : va_G) (cA : Nat → ClassId) (ad : Nat → Nat) (hI : InjA ad) (sz : Nat) (S : SS) (hs : f_MK_needPlan S ≠ none) : vx_Met l y_MK_needPlan w_MK_needPlan ({ frames := 6, cells := 1, slots := 6, locals := 90 }) (va_Pc [.ref (ad 0)] (fun U => U.heap.size = sz ∧ va_P D vwCl (X cA ad S) U.heap ∧ va_K D vwCl (tysX cA) U ∧ ZX (AS ad sz) U)) (va_Qv (fun (_ : Unit) => f_MK_needPlan S = some (.inr ())) (fun (_ : Unit) t => va_P D vwCl (X cA ad S) t.heap ∧ va_K D vwCl (tysX cA) t) (AS ad sz)) (vx_X (fun (k : Nat) => f_MK_needPlan S = some (.inl k) ∧ (k = 2)) (fun E k t => E = exN k ∧ va_P D vwCl (X cA ad S) t.heap ∧ va_K D vwCl (tysX cA) t) (AS ad sz)) 1 6 (AS ad sz) := by
  refine vx_ofW (cc := b_MK_needPlan) (maxL := 1) (ret := none) (by decide) rfl ?_
  intro p e s m args below meth c s₁ B hml hnoex hv
  obtain ⟨rfl, hsz, hP, hK, hZ⟩ := hv
  have hx := B.exec
  have hb := B.bytes
  have hr := B.returns
  have hts := atoms_spec (ws := w_MK_needPlan) B.pre
  have ht := fun w h => hts w (List.mem_cons_of_mem _ h)
  have hown : s.vm.findClass R_MK = some m.cls := findClass_of_methodNamed B.named
  have hlocks := B.notSynchronized
  subst hsz
  have hAd : ∀ q, q < NP → AS ad s.heap.size (ad q) := fun q h => Or.inl ⟨q, h, rfl⟩
  have hA : ∀ q : Nat, s.heap.size ≤ q → AS ad s.heap.size q := fun q h => Or.inr h
  have hAS : ∀ z : Nat, s.heap.size ≤ z → ∀ q : Nat, AS ad z q → AS ad s.heap.size q := fun z h q hq => hq.elim Or.inl (fun g => Or.inr (Nat.le_trans h g))
  generalize hAe : AS ad s.heap.size = A at hAd hA hAS hZ ⊢
  have hS : va_S A s.heap s.heap [] := va_S.rf
  have hl := lv_entry ([.ref (ad 0)]) (n := 1) (Nat.le_of_ble_eq_true rfl)
  rw [lg_entry_eq]
  generalize (lg_sl ([.ref (ad 0)]) ++ List.replicate (1 - (lg_sl ([.ref (ad 0)])).length) Slot.unset).toArray = ls at hl ⊢
  have hl : lv_has ls 1 [(0, .ref (ad 0))] := hl
  have hf := (f_MK_needPlan_s S).symm
  generalize hQ : vx_MQ below _ _ _ s _ _ _ = Q
  refine lv_aload_n hx hb d_MK_needPlan_0 rfl (lv_at hl 0 rfl) ?_
  refine va_get (D := D) (ci := 0) (v := .int (S.1 0 4)) (C := R_MK) (T := T_MK) (N := 5) hx hb ht i_MK hown hK hP 0 Xa_0 rfl 4 (by decide) (ht _ mF_MK_63) (fun _ h9 => h9) rfl d_MK_needPlan_1 ?_
  refine lv_if_ne (tgt := 17) hx hb d_MK_needPlan_4 (by decide) (fun c1 => ?_) (fun c1 => ?_)
  · rw [if_neg c1] at hf
    refine W.widen (k := 1) (n := 6) (by decide) (by decide) ?_
    rw [← hQ]
    refine vx_ret ?_
    exact W.vret hx hb hr (fun t ht hW => ⟨⟨(), rfl, hf.symm, by rw [ht]; exact hP, va_K.moved hW.alike hK⟩, hS.F ht⟩) hS.2.2 d_MK_needPlan_17
  · rw [if_pos c1] at hf
    obtain ⟨sa, hsa⟩ := hZ.2.2.1 ("MasterKeys", 176, "no plan is found") (by decide +kernel)
    rw [← hQ]
    exact vx_throwS hx hb hlt hown (by decide +kernel) (by decide +kernel) (ht _ mK_MK_56) (ht _ mN_ISE) hsa (th_at2 ht hZ.2.2.2.1) th_good2 hZ.1 hZ.2.1 hS (hl.1.trans hml.symm) d_MK_needPlan_7 d_MK_needPlan_10 d_MK_needPlan_11 d_MK_needPlan_13 d_MK_needPlan_16 (fun x hx9 => (hnoex x hx9).elim) (Nat.le_of_ble_eq_true rfl) (Nat.le_of_ble_eq_true rfl) (Nat.le_of_ble_eq_true rfl) (Nat.le_of_ble_eq_true rfl) hlocks (fun t ha hz hk => ⟨2, ⟨hf.symm, rfl⟩, ⟨rfl, hP.kept (fun k9 q9 h9 => hk _ (hP k9 q9 h9).lt), va_K.moved ha hK⟩, ⟨Nat.le_trans hS.1 hz, fun q h1 h2 => (hk q (Nat.lt_of_lt_of_le h1 hS.1)).trans (hS.2.1 q h1 h2)⟩⟩) hS.2.2 (Nat.le_of_ble_eq_true rfl) (Nat.le_of_ble_eq_true rfl)
set_option maxHeartbeats 4000000 in
set_option maxRecDepth 100000 in
theorem c_MK_left (l : Launch) (hlt : l.stackTraces = false) (D : va_G) (cA : Nat → ClassId) (ad : Nat → Nat) (hI : InjA ad) (sz : Nat) (S : SS) (hs : f_MK_left S ≠ none) : vx_Met l y_MK_left w_MK_left ({ frames := 7, cells := 1, slots := 6, locals := 140 }) (va_Pc [.ref (ad 0)] (fun U => U.heap.size = sz ∧ va_P D vwCl (X cA ad S) U.heap ∧ va_K D vwCl (tysX cA) U ∧ ZX (AS ad sz) U)) (va_Qi (fun (r : Int32) (u : SS) => f_MK_left S = some (.inr (r, u))) (fun (u : SS) t => va_P D vwCl (X cA ad u) t.heap ∧ va_K D vwCl (tysX cA) t) (AS ad sz)) (vx_X (fun (k : Nat) => f_MK_left S = some (.inl k) ∧ (k = 2)) (fun E k t => E = exN k ∧ va_P D vwCl (X cA ad S) t.heap ∧ va_K D vwCl (tysX cA) t) (AS ad sz)) 1 6 (AS ad sz) := by
  refine vx_ofW (cc := b_MK_left) (maxL := 1) (ret := (some .int)) (by decide) rfl ?_
  intro p e s m args below meth c s₁ B hml hnoex hv
  obtain ⟨rfl, hsz, hP, hK, hZ⟩ := hv
  have hx := B.exec
  have hb := B.bytes
  have hr := B.returns
  have hts := atoms_spec (ws := w_MK_left) B.pre
  have ht := fun w h => hts w (List.mem_cons_of_mem _ h)
  have hown : s.vm.findClass R_MK = some m.cls := findClass_of_methodNamed B.named
  have hlocks := B.notSynchronized
  subst hsz
  have hAd : ∀ q, q < NP → AS ad s.heap.size (ad q) := fun q h => Or.inl ⟨q, h, rfl⟩
  have hA : ∀ q : Nat, s.heap.size ≤ q → AS ad s.heap.size q := fun q h => Or.inr h
  have hAS : ∀ z : Nat, s.heap.size ≤ z → ∀ q : Nat, AS ad z q → AS ad s.heap.size q := fun z h q hq => hq.elim Or.inl (fun g => Or.inr (Nat.le_trans h g))
  generalize hAe : AS ad s.heap.size = A at hAd hA hAS hZ ⊢
  have hS : va_S A s.heap s.heap [] := va_S.rf
  have hl := lv_entry ([.ref (ad 0)]) (n := 1) (Nat.le_of_ble_eq_true rfl)
  rw [lg_entry_eq]
  generalize (lg_sl ([.ref (ad 0)]) ++ List.replicate (1 - (lg_sl ([.ref (ad 0)])).length) Slot.unset).toArray = ls at hl ⊢
  have hl : lv_has ls 1 [(0, .ref (ad 0))] := hl
  have hf := (f_MK_left_s S).symm
  generalize hQ : vx_MQ below _ _ _ s _ _ _ = Q
  refine lv_aload_n hx hb d_MK_left_0 rfl (lv_at hl 0 rfl) ?_
  refine vx_callv (vx_runV (As := []) (rest := []) ⟨hx, hb, hml, hown, ht⟩ (c_MK_needPlan l hlt D cA ad hI s.heap.size S (fun hn => hs (by rw [hn] at hf; exact hf.symm))) (cwV 0 ht (good_G (gV mM_MK_143 mI_MK_needPlan mV_MK_needPlan mN_MK mk_MK_needPlan)) rfl rfl rfl (by decide +kernel) ⟨Nat.le_of_ble_eq_true rfl, Nat.le_of_ble_eq_true rfl⟩) ⟨fun a U g mk q => ⟨q.1, q.2.1, q.2.2.1, va_K.moved (u := U) (U := U.calling g mk a) (Vm.Alike.refl U.vm) q.2.2.2.1, ZX.call q.2.2.2.2⟩, va_recv hK hP (ci := 0) (q0 := 0) rfl Xa_0, fun U hU hW => ⟨rfl, by rw [hU], by rw [hU]; exact hP, va_K.moved hW.alike hK, hZ.to hS (hAS _ hS.1) hU hW⟩⟩ rfl rfl hl.1 rfl (lv_room (Nat.le_of_ble_eq_true rfl)) d_MK_left_1 ⟨Nat.le_of_ble_eq_true rfl, Nat.le_of_ble_eq_true rfl⟩) hS (fun q _ h => hAS _ hS.1 q h) (fun q h => hAS _ hS.1 q h) (fun q _ h => hAS _ hS.1 q h) (fun E ce q9 kx tx H locs ht9 hvm9 hw9 hB9 hz9 hk9 hS hce hcv hcl => ?_) (fun _ t H locs ht9 hvm hw hB hz1 hk1 hS => ?_)
  · obtain ⟨hE9, hP, hK9⟩ := hB9
    rw [ht9] at hP
    obtain ⟨hw9, hk9⟩ := hw9
    rw [hw9, Option.bind_some, Sum.elim_inl] at hf
    rw [← hQ]
    exact vx_out (E := E) (fun x hx9 => (hnoex x hx9).elim) hlocks hce hcv hcl (fun t ht ha => ⟨kx, ⟨hf.symm, hk9⟩, ⟨hE9, by rw [ht]; exact hP, va_K.moved ha hK⟩, hS.F ht⟩) hS.2.2 (Nat.le_of_ble_eq_true rfl) (Nat.le_of_ble_eq_true rfl)
  obtain ⟨hP, hK9⟩ := hB
  rw [ht9] at hP
  rw [hw, Option.bind_some, Sum.elim_inr] at hf
  refine lv_aload_n hx hb d_MK_left_4 rfl (lv_at hl 0 rfl) ?_
  refine va_get (D := D) (ci := 0) (v := .ref (ad 4)) (C := R_MK) (T := T_MK) (N := 5) hx hb ht i_MK hown hK hP 0 Xa_0 rfl 3 (by decide) (ht _ mF_MK_48) (fun _ h9 => h9) rfl d_MK_left_5 ?_
  refine lv_iconst (v := 0) hx hb d_MK_left_8 (by decide) ?_
  refine va_calli (va_runV (As := [.int (0 : Int32)]) (rest := []) ⟨hx, hb, hml, hown, ht⟩ (c_Rows_countFree l D cA ad hI H.size (0 : Int32) S (fun hn => hs (by rw [hn] at hf; exact hf.symm))) (cwV 1 ht (good_G (gV mM_MK_146 mI_Rows_countFree mV_Rows_countFree mN_Rows mk_Rows_countFree)) rfl rfl rfl (by decide +kernel) ⟨Nat.le_of_ble_eq_true rfl, Nat.le_of_ble_eq_true rfl⟩) ⟨fun a U g mk q => ⟨q.1, q.2.1, q.2.2.1, va_K.moved (u := U) (U := U.calling g mk a) (Vm.Alike.refl U.vm) q.2.2.2⟩, va_recv hK hP (ci := 4) (q0 := 4) rfl Xa_4, fun U hU hW => ⟨rfl, by rw [hU], by rw [hU]; exact hP, va_K.moved hW.alike hK⟩⟩ rfl rfl hl.1 rfl (lv_room (Nat.le_of_ble_eq_true rfl)) d_MK_left_9 ⟨Nat.le_of_ble_eq_true rfl, Nat.le_of_ble_eq_true rfl⟩) hS (fun q _ h => hAS _ hS.1 q h) (fun q h => hAS _ hS.1 q h) (fun r2 u2 t H locs ht9 hvm hw hB hz1 hk1 hS => ?_)
  obtain ⟨hP, hK9⟩ := hB
  rw [ht9] at hP
  rw [hw, Option.bind_some] at hf
  dsimp only at hf
  rw [← hQ]
  refine vx_ret ?_
  exact W.iret (v := r2) hx hb hr (fun t ht hW => ⟨⟨r2, u2, rfl, hf.symm, by rw [ht]; exact hP, va_K.moved hW.alike hK⟩, hS.F ht⟩) hS.2.2 d_MK_left_12
set_option maxHeartbeats 4000000 in
set_option maxRecDepth 100000 in
theorem c_MK_add (l : Launch) (hlt : l.stackTraces = false) (D : va_G) (cA : Nat → ClassId) (ad : Nat → Nat) (hI : InjA ad) (sz : Nat) (a1 : Int32) (S : SS) (hs : f_MK_add a1 S ≠ none) : vx_Met l y_MK_add w_MK_add ({ frames := 7, cells := 2, slots := 12, locals := 150 }) (va_Pc [.ref (ad 0), .int a1] (fun U => U.heap.size = sz ∧ va_P D vwCl (X cA ad S) U.heap ∧ va_K D vwCl (tysX cA) U ∧ ZX (AS ad sz) U)) (va_Qi (fun (r : Int32) (u : SS) => f_MK_add a1 S = some (.inr (r, u))) (fun (u : SS) t => va_P D vwCl (X cA ad u) t.heap ∧ va_K D vwCl (tysX cA) t) (AS ad sz)) (vx_X (fun (k : Nat) => f_MK_add a1 S = some (.inl k) ∧ (k = 1 ∨ k = 2)) (fun E k t => E = exN k ∧ va_P D vwCl (X cA ad S) t.heap ∧ va_K D vwCl (tysX cA) t) (AS ad sz)) 2 12 (AS ad sz) := by
  refine vx_ofW (cc := b_MK_add) (maxL := 2) (ret := (some .int)) (by decide) rfl ?_
  intro p e s m args below meth c s₁ B hml hnoex hv
  obtain ⟨rfl, hsz, hP, hK, hZ⟩ := hv
  have hx := B.exec
  have hb := B.bytes
  have hr := B.returns
  have hts := atoms_spec (ws := w_MK_add) B.pre
  have ht := fun w h => hts w (List.mem_cons_of_mem _ h)
  have hown : s.vm.findClass R_MK = some m.cls := findClass_of_methodNamed B.named
  have hlocks := B.notSynchronized
  subst hsz
  have hAd : ∀ q, q < NP → AS ad s.heap.size (ad q) := fun q h => Or.inl ⟨q, h, rfl⟩
  have hA : ∀ q : Nat, s.heap.size ≤ q → AS ad s.heap.size q := fun q h => Or.inr h
  have hAS : ∀ z : Nat, s.heap.size ≤ z → ∀ q : Nat, AS ad z q → AS ad s.heap.size q := fun z h q hq => hq.elim Or.inl (fun g => Or.inr (Nat.le_trans h g))
  generalize hAe : AS ad s.heap.size = A at hAd hA hAS hZ ⊢
  have hS : va_S A s.heap s.heap [] := va_S.rf
  have hl := lv_entry ([.ref (ad 0), .int a1]) (n := 2) (Nat.le_of_ble_eq_true rfl)
  rw [lg_entry_eq]
  generalize (lg_sl ([.ref (ad 0), .int a1]) ++ List.replicate (2 - (lg_sl ([.ref (ad 0), .int a1])).length) Slot.unset).toArray = ls at hl ⊢
  have hl : lv_has ls 2 [(0, .ref (ad 0)), (1, .int a1)] := hl
  have hf := (f_MK_add_s a1 S).symm
  generalize hQ : vx_MQ below _ _ _ s _ _ _ = Q
  refine lv_iload_n hx hb d_MK_add_0 rfl (lv_at hl 1 rfl) ?_
  refine lv_if_lt (tgt := 15) hx hb d_MK_add_1 (by decide) (fun c1 => ?_) (fun c1 => ?_)
  · rw [if_pos c1] at hf
    obtain ⟨sa, hsa⟩ := hZ.2.2.1 ("MasterKeys", 153, "there are no such doors") (by decide +kernel)
    rw [← hQ]
    exact vx_throwS hx hb hlt hown (by decide +kernel) (by decide +kernel) (ht _ mK_MK_87) (ht _ mN_IAE) hsa (th_at1 ht hZ.2.2.2.1) th_good1 hZ.1 hZ.2.1 hS (hl.1.trans hml.symm) d_MK_add_15 d_MK_add_18 d_MK_add_19 d_MK_add_21 d_MK_add_24 (fun x hx9 => (hnoex x hx9).elim) (Nat.le_of_ble_eq_true rfl) (Nat.le_of_ble_eq_true rfl) (Nat.le_of_ble_eq_true rfl) (Nat.le_of_ble_eq_true rfl) hlocks (fun t ha hz hk => ⟨1, ⟨hf.symm, Or.inl rfl⟩, ⟨rfl, hP.kept (fun k9 q9 h9 => hk _ (hP k9 q9 h9).lt), va_K.moved ha hK⟩, ⟨Nat.le_trans hS.1 hz, fun q h1 h2 => (hk q (Nat.lt_of_lt_of_le h1 hS.1)).trans (hS.2.1 q h1 h2)⟩⟩) hS.2.2 (Nat.le_of_ble_eq_true rfl) (Nat.le_of_ble_eq_true rfl)
  · rw [if_neg c1] at hf
    refine lv_iload_n hx hb d_MK_add_4 rfl (lv_at hl 1 rfl) ?_
    refine lv_aload_n hx hb d_MK_add_5 rfl (lv_at hl 0 rfl) ?_
    refine va_get (D := D) (ci := 0) (v := .ref (ad 2)) (C := R_MK) (T := T_MK) (N := 5) hx hb ht i_MK hown hK hP 0 Xa_0 rfl 1 (by decide) (ht _ mF_MK_32) (fun _ h9 => h9) rfl d_MK_add_6 ?_
    refine va_calli (va_runV (As := []) (rest := [.int a1]) ⟨hx, hb, hml, hown, ht⟩ (c_Board_allDoors l D cA ad hI s.heap.size S (fun hn => hs (by rw [hn] at hf; exact hf.symm))) (cwV 0 ht (good_G (gV mM_MK_149 mI_Board_allDoors mV_Board_allDoors mN_Board mk_Board_allDoors)) rfl rfl rfl (by decide +kernel) ⟨Nat.le_of_ble_eq_true rfl, Nat.le_of_ble_eq_true rfl⟩) ⟨fun a U g mk q => ⟨q.1, q.2.1, q.2.2.1, va_K.moved (u := U) (U := U.calling g mk a) (Vm.Alike.refl U.vm) q.2.2.2⟩, va_recv hK hP (ci := 2) (q0 := 2) rfl Xa_2, fun U hU hW => ⟨rfl, by rw [hU], by rw [hU]; exact hP, va_K.moved hW.alike hK⟩⟩ rfl rfl hl.1 rfl (lv_room (Nat.le_of_ble_eq_true rfl)) d_MK_add_9 ⟨Nat.le_of_ble_eq_true rfl, Nat.le_of_ble_eq_true rfl⟩) hS (fun q _ h => hAS _ hS.1 q h) (fun q h => hAS _ hS.1 q h) (fun r1 _ t H locs ht9 hvm hw hB hz1 hk1 hS => ?_)
    obtain ⟨hP, hK9⟩ := hB
    rw [ht9] at hP
    rw [hw, Option.bind_some] at hf
    refine lv_icmp_le (tgt := 25) hx hb d_MK_add_12 (by decide) (fun c2 => ?_) (fun c2 => ?_)
    · rw [if_pos c2] at hf
      refine lv_aload_n hx hb d_MK_add_25 rfl (lv_at hl 0 rfl) ?_
      refine vx_callv (vx_runV (As := []) (rest := []) ⟨hx, hb, hml, hown, ht⟩ (c_MK_needPlan l hlt D cA ad hI H.size S (fun hn => hs (by rw [hn] at hf; exact hf.symm))) (cwV 0 ht (good_G (gV mM_MK_143 mI_MK_needPlan mV_MK_needPlan mN_MK mk_MK_needPlan)) rfl rfl rfl (by decide +kernel) ⟨Nat.le_of_ble_eq_true rfl, Nat.le_of_ble_eq_true rfl⟩) ⟨fun a U g mk q => ⟨q.1, q.2.1, q.2.2.1, va_K.moved (u := U) (U := U.calling g mk a) (Vm.Alike.refl U.vm) q.2.2.2.1, ZX.call q.2.2.2.2⟩, va_recv hK hP (ci := 0) (q0 := 0) rfl Xa_0, fun U hU hW => ⟨rfl, by rw [hU], by rw [hU]; exact hP, va_K.moved hW.alike hK, hZ.to hS (hAS _ hS.1) hU hW⟩⟩ rfl rfl hl.1 rfl (lv_room (Nat.le_of_ble_eq_true rfl)) d_MK_add_26 ⟨Nat.le_of_ble_eq_true rfl, Nat.le_of_ble_eq_true rfl⟩) hS (fun q _ h => hAS _ hS.1 q h) (fun q h => hAS _ hS.1 q h) (fun q _ h => hAS _ hS.1 q h) (fun E ce q9 kx tx H locs ht9 hvm9 hw9 hB9 hz9 hk9 hS hce hcv hcl => ?_) (fun _ t H locs ht9 hvm hw hB hz1 hk1 hS => ?_)
      · obtain ⟨hE9, hP, hK9⟩ := hB9
        rw [ht9] at hP
        obtain ⟨hw9, hk9⟩ := hw9
        rw [hw9, Option.bind_some, Sum.elim_inl] at hf
        rw [← hQ]
        exact vx_out (E := E) (fun x hx9 => (hnoex x hx9).elim) hlocks hce hcv hcl (fun t ht ha => ⟨kx, ⟨hf.symm, Or.inr hk9⟩, ⟨hE9, by rw [ht]; exact hP, va_K.moved ha hK⟩, hS.F ht⟩) hS.2.2 (Nat.le_of_ble_eq_true rfl) (Nat.le_of_ble_eq_true rfl)
      obtain ⟨hP, hK9⟩ := hB
      rw [ht9] at hP
      rw [hw, Option.bind_some, Sum.elim_inr] at hf
      refine lv_aload_n hx hb d_MK_add_29 rfl (lv_at hl 0 rfl) ?_
      refine va_get (D := D) (ci := 0) (v := .ref (ad 2)) (C := R_MK) (T := T_MK) (N := 5) hx hb ht i_MK hown hK hP 0 Xa_0 rfl 1 (by decide) (ht _ mF_MK_32) (fun _ h9 => h9) rfl d_MK_add_30 ?_
      refine va_get (D := D) (ci := 2) (v := .int (S.1 2 1)) (C := R_Board) (T := T_Board) (N := 7) hx hb ht i_Board hown hK hP 2 Xa_2 rfl 1 (by decide) (ht _ mF_MK_52) (fun _ h9 => h9) rfl d_MK_add_33 ?_
      refine lv_bipush (v := 8) hx hb d_MK_add_36 (by decide) ?_
      refine lv_icmp_lt (tgt := 51) hx hb d_MK_add_38 (by decide) (fun c3 => ?_) (fun c3 => ?_)
      · rw [if_pos c3] at hf
        refine lv_aload_n hx hb d_MK_add_51 rfl (lv_at hl 0 rfl) ?_
        refine va_get (D := D) (ci := 0) (v := .ref (ad 4)) (C := R_MK) (T := T_MK) (N := 5) hx hb ht i_MK hown hK hP 0 Xa_0 rfl 3 (by decide) (ht _ mF_MK_48) (fun _ h9 => h9) rfl d_MK_add_52 ?_
        refine lv_iload_n hx hb d_MK_add_55 rfl (lv_at hl 1 rfl) ?_
        refine va_calli (va_runV (As := [.int a1]) (rest := []) ⟨hx, hb, hml, hown, ht⟩ (c_Rows_cutLeast l D cA ad hI H.size a1 S (fun hn => hs (by rw [hn] at hf; exact hf.symm))) (cwV 1 ht (good_G (gV mM_MK_155 mI_Rows_cutLeast mV_Rows_cutLeast mN_Rows mk_Rows_cutLeast)) rfl rfl rfl (by decide +kernel) ⟨Nat.le_of_ble_eq_true rfl, Nat.le_of_ble_eq_true rfl⟩) ⟨fun a U g mk q => ⟨q.1, q.2.1, q.2.2.1, va_K.moved (u := U) (U := U.calling g mk a) (Vm.Alike.refl U.vm) q.2.2.2⟩, va_recv hK hP (ci := 4) (q0 := 4) rfl Xa_4, fun U hU hW => ⟨rfl, by rw [hU], by rw [hU]; exact hP, va_K.moved hW.alike hK⟩⟩ rfl rfl hl.1 rfl (lv_room (Nat.le_of_ble_eq_true rfl)) d_MK_add_56 ⟨Nat.le_of_ble_eq_true rfl, Nat.le_of_ble_eq_true rfl⟩) hS (fun q _ h => hAS _ hS.1 q h) (fun q h => hAS _ hS.1 q h) (fun r3 u3 t H locs ht9 hvm hw hB hz1 hk1 hS => ?_)
        obtain ⟨hP, hK9⟩ := hB
        rw [ht9] at hP
        obtain ⟨hw, hz3⟩ := hw
        rw [hw, Option.bind_some] at hf
        dsimp only at hf
        refine lv_if_ne (tgt := 64) hx hb d_MK_add_59 (by decide) (fun c4 => ?_) (fun c4 => ?_)
        · rw [if_neg c4] at hf
          refine lv_aload_n hx hb d_MK_add_64 rfl (lv_at hl 0 rfl) ?_
          refine va_get (D := D) (ci := 0) (v := .ref (ad 2)) (C := R_MK) (T := T_MK) (N := 5) hx hb ht i_MK hown hK hP 0 Xa_0 rfl 1 (by decide) (ht _ mF_MK_32) (fun _ h9 => h9) rfl d_MK_add_65 ?_
          refine lv_iload_n hx hb d_MK_add_68 rfl (lv_at hl 1 rfl) ?_
          refine va_callv (va_runV (As := [.int a1]) (rest := []) ⟨hx, hb, hml, hown, ht⟩ (c_Board_enter l D cA ad hI H.size a1 u3 (fun hn => hs (by rw [hn] at hf; exact hf.symm))) (cwV 1 ht (good_G (gV mM_MK_159 mI_Board_enter mV_Board_enter mN_Board mk_Board_enter)) rfl rfl rfl (by decide +kernel) ⟨Nat.le_of_ble_eq_true rfl, Nat.le_of_ble_eq_true rfl⟩) ⟨fun a U g mk q => ⟨q.1, q.2.1, q.2.2.1, va_K.moved (u := U) (U := U.calling g mk a) (Vm.Alike.refl U.vm) q.2.2.2⟩, va_recv hK hP (ci := 2) (q0 := 2) rfl Xa_2, fun U hU hW => ⟨rfl, by rw [hU], by rw [hU]; exact hP, va_K.moved hW.alike hK⟩⟩ rfl rfl hl.1 rfl (lv_room (Nat.le_of_ble_eq_true rfl)) d_MK_add_69 ⟨Nat.le_of_ble_eq_true rfl, Nat.le_of_ble_eq_true rfl⟩) hS (fun q _ h => hAS _ hS.1 q h) (fun q h => hAS _ hS.1 q h) (fun u4 t H locs ht9 hvm hw hB hz1 hk1 hS => ?_)
          obtain ⟨hP, hK9⟩ := hB
          rw [ht9] at hP
          rw [hw, Option.bind_some] at hf
          refine lv_aload_n hx hb d_MK_add_72 rfl (lv_at hl 0 rfl) ?_
          refine va_get (D := D) (ci := 0) (v := .ref (ad 2)) (C := R_MK) (T := T_MK) (N := 5) hx hb ht i_MK hown hK hP 0 Xa_0 rfl 1 (by decide) (ht _ mF_MK_32) (fun _ h9 => h9) rfl d_MK_add_73 ?_
          refine va_get (D := D) (ci := 2) (v := .int (u4.1 2 1)) (C := R_Board) (T := T_Board) (N := 7) hx hb ht i_Board hown hK hP 2 Xa_2 rfl 1 (by decide) (ht _ mF_MK_52) (fun _ h9 => h9) rfl d_MK_add_76 ?_
          refine lv_iconst (v := 1) hx hb d_MK_add_79 (by decide) ?_
          refine lv_isub hx hb d_MK_add_80 ?_
          refine W.widen (k := 2) (n := 12) (by decide) (by decide) ?_
          rw [← hQ]
          refine vx_ret ?_
          exact W.iret (v := (u4.1 2 1) - (1 : Int32)) hx hb hr (fun t ht hW => ⟨⟨(u4.1 2 1) - (1 : Int32), u4, rfl, hf.symm, by rw [ht]; exact hP, va_K.moved hW.alike hK⟩, hS.F ht⟩) hS.2.2 d_MK_add_81
        · rw [if_pos c4] at hf
          refine lv_iconst (v := (-1)) hx hb d_MK_add_62 (by decide) ?_
          refine W.widen (k := 2) (n := 12) (by decide) (by decide) ?_
          rw [← hQ]
          refine vx_ret ?_
          exact W.iret (v := (-1 : Int32)) hx hb hr (fun t ht hW => ⟨⟨(-1 : Int32), u3, rfl, hf.symm, by rw [ht]; exact hP, va_K.moved hW.alike hK⟩, hS.F ht⟩) hS.2.2 d_MK_add_63
      · rw [if_neg c3] at hf
        obtain ⟨sa, hsa⟩ := hZ.2.2.1 ("MasterKeys", 58, "there are 8 keys") (by decide +kernel)
        rw [← hQ]
        exact vx_throwS hx hb hlt hown (by decide +kernel) (by decide +kernel) (ht _ mK_MK_56) (ht _ mN_ISE) hsa (th_at2 ht hZ.2.2.2.1) th_good2 hZ.1 hZ.2.1 hS (hl.1.trans hml.symm) d_MK_add_41 d_MK_add_44 d_MK_add_45 d_MK_add_47 d_MK_add_50 (fun x hx9 => (hnoex x hx9).elim) (Nat.le_of_ble_eq_true rfl) (Nat.le_of_ble_eq_true rfl) (Nat.le_of_ble_eq_true rfl) (Nat.le_of_ble_eq_true rfl) hlocks (fun t ha hz hk => ⟨2, ⟨hf.symm, Or.inr rfl⟩, ⟨rfl, hP.kept (fun k9 q9 h9 => hk _ (hP k9 q9 h9).lt), va_K.moved ha hK⟩, ⟨Nat.le_trans hS.1 hz, fun q h1 h2 => (hk q (Nat.lt_of_lt_of_le h1 hS.1)).trans (hS.2.1 q h1 h2)⟩⟩) hS.2.2 (Nat.le_of_ble_eq_true rfl) (Nat.le_of_ble_eq_true rfl)
    · rw [if_neg c2] at hf
      obtain ⟨sa, hsa⟩ := hZ.2.2.1 ("MasterKeys", 153, "there are no such doors") (by decide +kernel)
      rw [← hQ]
      exact vx_throwS hx hb hlt hown (by decide +kernel) (by decide +kernel) (ht _ mK_MK_87) (ht _ mN_IAE) hsa (th_at1 ht hZ.2.2.2.1) th_good1 hZ.1 hZ.2.1 hS (hl.1.trans hml.symm) d_MK_add_15 d_MK_add_18 d_MK_add_19 d_MK_add_21 d_MK_add_24 (fun x hx9 => (hnoex x hx9).elim) (Nat.le_of_ble_eq_true rfl) (Nat.le_of_ble_eq_true rfl) (Nat.le_of_ble_eq_true rfl) (Nat.le_of_ble_eq_true rfl) hlocks (fun t ha hz hk => ⟨1, ⟨hf.symm, Or.inl rfl⟩, ⟨rfl, hP.kept (fun k9 q9 h9 => hk _ (hP k9 q9 h9).lt), va_K.moved ha hK⟩, ⟨Nat.le_trans hS.1 hz, fun q h1 h2 => (hk q (Nat.lt_of_lt_of_le h1 hS.1)).trans (hS.2.1 q h1 h2)⟩⟩) hS.2.2 (Nat.le_of_ble_eq_true rfl) (Nat.le_of_ble_eq_true rfl)
set_option maxHeartbeats 4000000 in
set_option maxRecDepth 100000 in
theorem c_MK_heirs (l : Launch) (hlt : l.stackTraces = false) (D : va_G) (cA : Nat → ClassId) (ad : Nat → Nat) (hI : InjA ad) (sz : Nat) (a1 : Int32) (S : SS) (hs : f_MK_heirs a1 S ≠ none) : vx_Met l y_MK_heirs w_MK_heirs ({ frames := 7, cells := 2, slots := 12, locals := 111 }) (va_Pc [.ref (ad 0), .int a1] (fun U => U.heap.size = sz ∧ va_P D vwCl (X cA ad S) U.heap ∧ va_K D vwCl (tysX cA) U ∧ ZX (AS ad sz) U)) (va_Qi (fun (r : Int32) (_ : Unit) => f_MK_heirs a1 S = some (.inr r)) (fun (_ : Unit) t => va_P D vwCl (X cA ad S) t.heap ∧ va_K D vwCl (tysX cA) t) (AS ad sz)) (vx_X (fun (k : Nat) => f_MK_heirs a1 S = some (.inl k) ∧ (k = 1 ∨ k = 2)) (fun E k t => E = exN k ∧ va_P D vwCl (X cA ad S) t.heap ∧ va_K D vwCl (tysX cA) t) (AS ad sz)) 2 12 (AS ad sz) := by
  refine vx_ofW (cc := b_MK_heirs) (maxL := 5) (ret := (some .int)) (by decide) rfl ?_
  intro p e s m args below meth c s₁ B hml hnoex hv
  obtain ⟨rfl, hsz, hP, hK, hZ⟩ := hv
  have hx := B.exec
  have hb := B.bytes
  have hr := B.returns
  have hts := atoms_spec (ws := w_MK_heirs) B.pre
  have ht := fun w h => hts w (List.mem_cons_of_mem _ h)
  have hown : s.vm.findClass R_MK = some m.cls := findClass_of_methodNamed B.named
  have hlocks := B.notSynchronized
  subst hsz
  have hAd : ∀ q, q < NP → AS ad s.heap.size (ad q) := fun q h => Or.inl ⟨q, h, rfl⟩
  have hA : ∀ q : Nat, s.heap.size ≤ q → AS ad s.heap.size q := fun q h => Or.inr h
  have hAS : ∀ z : Nat, s.heap.size ≤ z → ∀ q : Nat, AS ad z q → AS ad s.heap.size q := fun z h q hq => hq.elim Or.inl (fun g => Or.inr (Nat.le_trans h g))
  generalize hAe : AS ad s.heap.size = A at hAd hA hAS hZ ⊢
  have hS : va_S A s.heap s.heap [] := va_S.rf
  have hl := lv_entry ([.ref (ad 0), .int a1]) (n := 5) (Nat.le_of_ble_eq_true rfl)
  rw [lg_entry_eq]
  generalize (lg_sl ([.ref (ad 0), .int a1]) ++ List.replicate (5 - (lg_sl ([.ref (ad 0), .int a1])).length) Slot.unset).toArray = ls at hl ⊢
  have hl : lv_has ls 5 [(0, .ref (ad 0)), (1, .int a1)] := hl
  have hf := (f_MK_heirs_s a1 S).symm
  generalize hQ : vx_MQ below _ _ _ s _ _ _ = Q
  refine lv_aload_n hx hb d_MK_heirs_0 rfl (lv_at hl 0 rfl) ?_
  refine lv_iload_n hx hb d_MK_heirs_1 rfl (lv_at hl 1 rfl) ?_
  refine vx_callv (vx_runV (As := [.int a1]) (rest := []) ⟨hx, hb, hml, hown, ht⟩ (c_MK_needKey l hlt D cA ad hI s.heap.size a1 S (fun hn => hs (by rw [hn] at hf; exact hf.symm))) (cwV 1 ht (good_G (gV mM_MK_72 mI_MK_needKey mV_MK_needKey mN_MK mk_MK_needKey)) rfl rfl rfl (by decide +kernel) ⟨Nat.le_of_ble_eq_true rfl, Nat.le_of_ble_eq_true rfl⟩) ⟨fun a U g mk q => ⟨q.1, q.2.1, q.2.2.1, va_K.moved (u := U) (U := U.calling g mk a) (Vm.Alike.refl U.vm) q.2.2.2.1, ZX.call q.2.2.2.2⟩, va_recv hK hP (ci := 0) (q0 := 0) rfl Xa_0, fun U hU hW => ⟨rfl, by rw [hU], by rw [hU]; exact hP, va_K.moved hW.alike hK, hZ.to hS (hAS _ hS.1) hU hW⟩⟩ rfl rfl hl.1 rfl (lv_room (Nat.le_of_ble_eq_true rfl)) d_MK_heirs_2 ⟨Nat.le_of_ble_eq_true rfl, Nat.le_of_ble_eq_true rfl⟩) hS (fun q _ h => hAS _ hS.1 q h) (fun q h => hAS _ hS.1 q h) (fun q _ h => hAS _ hS.1 q h) (fun E ce q9 kx tx H locs ht9 hvm9 hw9 hB9 hz9 hk9 hS hce hcv hcl => ?_) (fun _ t H locs ht9 hvm hw hB hz1 hk1 hS => ?_)
  · obtain ⟨hE9, hP, hK9⟩ := hB9
    rw [ht9] at hP
    obtain ⟨hw9, hk9⟩ := hw9
    rw [hw9, Option.bind_some, Sum.elim_inl] at hf
    rw [← hQ]
    exact vx_out (E := E) (fun x hx9 => (hnoex x hx9).elim) hlocks hce hcv hcl (fun t ht ha => ⟨kx, ⟨hf.symm, Or.inl hk9⟩, ⟨hE9, by rw [ht]; exact hP, va_K.moved ha hK⟩, hS.F ht⟩) hS.2.2 (Nat.le_of_ble_eq_true rfl) (Nat.le_of_ble_eq_true rfl)
  obtain ⟨hP, hK9⟩ := hB
  rw [ht9] at hP
  rw [hw, Option.bind_some, Sum.elim_inr] at hf
  refine lv_aload_n hx hb d_MK_heirs_5 rfl (lv_at hl 0 rfl) ?_
  refine vx_callv (vx_runV (As := []) (rest := []) ⟨hx, hb, hml, hown, ht⟩ (c_MK_needPlan l hlt D cA ad hI H.size S (fun hn => hs (by rw [hn] at hf; exact hf.symm))) (cwV 0 ht (good_G (gV mM_MK_143 mI_MK_needPlan mV_MK_needPlan mN_MK mk_MK_needPlan)) rfl rfl rfl (by decide +kernel) ⟨Nat.le_of_ble_eq_true rfl, Nat.le_of_ble_eq_true rfl⟩) ⟨fun a U g mk q => ⟨q.1, q.2.1, q.2.2.1, va_K.moved (u := U) (U := U.calling g mk a) (Vm.Alike.refl U.vm) q.2.2.2.1, ZX.call q.2.2.2.2⟩, va_recv hK hP (ci := 0) (q0 := 0) rfl Xa_0, fun U hU hW => ⟨rfl, by rw [hU], by rw [hU]; exact hP, va_K.moved hW.alike hK, hZ.to hS (hAS _ hS.1) hU hW⟩⟩ rfl rfl hl.1 rfl (lv_room (Nat.le_of_ble_eq_true rfl)) d_MK_heirs_6 ⟨Nat.le_of_ble_eq_true rfl, Nat.le_of_ble_eq_true rfl⟩) hS (fun q _ h => hAS _ hS.1 q h) (fun q h => hAS _ hS.1 q h) (fun q _ h => hAS _ hS.1 q h) (fun E ce q9 kx tx H locs ht9 hvm9 hw9 hB9 hz9 hk9 hS hce hcv hcl => ?_) (fun _ t H locs ht9 hvm hw hB hz1 hk1 hS => ?_)
  · obtain ⟨hE9, hP, hK9⟩ := hB9
    rw [ht9] at hP
    obtain ⟨hw9, hk9⟩ := hw9
    rw [hw9, Option.bind_some, Sum.elim_inl] at hf
    rw [← hQ]
    exact vx_out (E := E) (fun x hx9 => (hnoex x hx9).elim) hlocks hce hcv hcl (fun t ht ha => ⟨kx, ⟨hf.symm, Or.inr hk9⟩, ⟨hE9, by rw [ht]; exact hP, va_K.moved ha hK⟩, hS.F ht⟩) hS.2.2 (Nat.le_of_ble_eq_true rfl) (Nat.le_of_ble_eq_true rfl)
  obtain ⟨hP, hK9⟩ := hB
  rw [ht9] at hP
  rw [hw, Option.bind_some, Sum.elim_inr] at hf
  refine lv_aload_n hx hb d_MK_heirs_9 rfl (lv_at hl 0 rfl) ?_
  refine va_get (D := D) (ci := 0) (v := .ref (ad 2)) (C := R_MK) (T := T_MK) (N := 5) hx hb ht i_MK hown hK hP 0 Xa_0 rfl 1 (by decide) (ht _ mF_MK_32) (fun _ h9 => h9) rfl d_MK_heirs_10 ?_
  refine lv_iload_n hx hb d_MK_heirs_13 rfl (lv_at hl 1 rfl) ?_
  refine va_calli (va_runV (As := [.int a1]) (rest := []) ⟨hx, hb, hml, hown, ht⟩ (c_Board_doorsOf l D cA ad hI H.size a1 S (fun hn => hs (by rw [hn] at hf; exact hf.symm))) (cwV 1 ht (good_G (gV mM_MK_131 mI_Board_doorsOf mV_Board_doorsOf mN_Board mk_Board_doorsOf)) rfl rfl rfl (by decide +kernel) ⟨Nat.le_of_ble_eq_true rfl, Nat.le_of_ble_eq_true rfl⟩) ⟨fun a U g mk q => ⟨q.1, q.2.1, q.2.2.1, va_K.moved (u := U) (U := U.calling g mk a) (Vm.Alike.refl U.vm) q.2.2.2⟩, va_recv hK hP (ci := 2) (q0 := 2) rfl Xa_2, fun U hU hW => ⟨rfl, by rw [hU], by rw [hU]; exact hP, va_K.moved hW.alike hK⟩⟩ rfl rfl hl.1 rfl (lv_room (Nat.le_of_ble_eq_true rfl)) d_MK_heirs_14 ⟨Nat.le_of_ble_eq_true rfl, Nat.le_of_ble_eq_true rfl⟩) hS (fun q _ h => hAS _ hS.1 q h) (fun q h => hAS _ hS.1 q h) (fun r3 _ t H locs ht9 hvm hw hB hz1 hk1 hS => ?_)
  obtain ⟨hP, hK9⟩ := hB
  rw [ht9] at hP
  rw [hw, Option.bind_some] at hf
  refine lv_istore_n (lv' := [(2, .int r3), (0, .ref (ad 0)), (1, .int a1)]) hx hb d_MK_heirs_17 rfl hl (by decide) rfl (fun ls hl => ?_)
  refine lv_iconst (v := 0) hx hb d_MK_heirs_18 (by decide) ?_
  refine lv_istore_n (lv' := [(3, .int (0 : Int32)), (2, .int r3), (0, .ref (ad 0)), (1, .int a1)]) hx hb d_MK_heirs_19 rfl hl (by decide) rfl (fun ls hl => ?_)
  refine lv_iconst (v := 0) hx hb d_MK_heirs_20 (by decide) ?_
  refine lv_istore (lv' := [(4, .int (0 : Int32)), (3, .int (0 : Int32)), (2, .int r3), (0, .ref (ad 0)), (1, .int a1)]) hx hb d_MK_heirs_21 hl (by decide) rfl (fun ls hl => ?_)
  have lp23_1 : ∀ (n : Nat) (x3_1 : Int32) (x4_1 : Int32) (H : Heap) (locs : List Loc) (ls : Array Slot), va_P D vwCl (X cA ad S) H → va_S A s.heap H locs → lv_has ls 5 [(0, .ref (ad 0)), (1, .int a1), (2, .int r3), (3, .int x3_1), (4, .int x4_1)] → f_MK_heirs_L23 a1 r3 n x3_1 x4_1 S ≠ none →
      (∀ v : Int32, f_MK_heirs_L23 a1 r3 n x3_1 x4_1 S = some v → ∀ (H : Heap) (locs : List Loc) (ls : Array Slot), va_P D vwCl (X cA ad S) H → va_S A s.heap H locs → lv_has ls 5 [(0, .ref (ad 0)), (1, .int a1), (2, .int r3), (3, .int v)] → W p l e (headSpec w_MK_heirs ({ frames := 7, cells := 2, slots := 12, locals := 111 })).room s m ([.ref (ad 0), .int a1] : List Value).toArray below meth c H locs 2 12 Q (F0 m 70 ls [])) →
      W p l e (headSpec w_MK_heirs ({ frames := 7, cells := 2, slots := 12, locals := 111 })).room s m ([.ref (ad 0), .int a1] : List Value).toArray below meth c H locs 2 12 Q (F0 m 23 ls []) := by
    intro n
    induction n with
    | zero => intro x3_1 x4_1 H locs ls hP hS hl hs; exact absurd rfl hs
    | succ n ih =>
      intro x3_1 x4_1 H locs ls hP hS hl hs hexit
      have hf := (f_MK_heirs_L23_s a1 r3 n x3_1 x4_1 S).symm
      refine lv_iload hx hb d_MK_heirs_23 (lv_at hl 4 rfl) ?_
      refine lv_aload_n hx hb d_MK_heirs_25 rfl (lv_at hl 0 rfl) ?_
      refine va_get (D := D) (ci := 0) (v := .ref (ad 2)) (C := R_MK) (T := T_MK) (N := 5) hx hb ht i_MK hown hK hP 0 Xa_0 rfl 1 (by decide) (ht _ mF_MK_32) (fun _ h9 => h9) rfl d_MK_heirs_26 ?_
      refine va_get (D := D) (ci := 2) (v := .int (S.1 2 1)) (C := R_Board) (T := T_Board) (N := 7) hx hb ht i_Board hown hK hP 2 Xa_2 rfl 1 (by decide) (ht _ mF_MK_52) (fun _ h9 => h9) rfl d_MK_heirs_29 ?_
      refine lv_icmp_ge (tgt := 70) hx hb d_MK_heirs_32 (by decide) (fun c1 => ?_) (fun c1 => ?_)
      · rw [if_pos c1] at hf
        exact hexit _ hf.symm _ _ _ hP hS (lv_sub hl [0, 1, 2, 3] rfl)
      · rw [if_neg c1] at hf
        refine lv_iload hx hb d_MK_heirs_35 (lv_at hl 4 rfl) ?_
        refine lv_iload_n hx hb d_MK_heirs_37 rfl (lv_at hl 1 rfl) ?_
        refine lv_icmp_eq (tgt := 64) hx hb d_MK_heirs_38 (by decide) (fun c2 => ?_) (fun c2 => ?_)
        · rw [if_pos c2] at hf
          refine lv_iinc (v := x4_1 + 1) (lv' := [(4, .int (x4_1 + 1)), (0, .ref (ad 0)), (1, .int a1), (2, .int r3), (3, .int x3_1)]) hx hb d_MK_heirs_64 hl (k := 4) rfl rfl (by decide) rfl (fun ls hl => ?_)
          refine lv_goto (tgt := 23) hx hb d_MK_heirs_67 (by decide) ?_
          exact ih x3_1 (x4_1 + 1) _ _ _ hP hS (lv_sub hl [1, 2, 3, 4, 0] rfl) (fun hn => hs (hf.symm.trans hn)) (fun v ho => hexit v (hf.symm.trans ho))
        · rw [if_neg c2] at hf
          refine lv_iload_n hx hb d_MK_heirs_41 rfl (lv_at hl 2 rfl) ?_
          refine lv_aload_n hx hb d_MK_heirs_42 rfl (lv_at hl 0 rfl) ?_
          refine va_get (D := D) (ci := 0) (v := .ref (ad 2)) (C := R_MK) (T := T_MK) (N := 5) hx hb ht i_MK hown hK hP 0 Xa_0 rfl 1 (by decide) (ht _ mF_MK_32) (fun _ h9 => h9) rfl d_MK_heirs_43 ?_
          refine lv_iload hx hb d_MK_heirs_46 (lv_at hl 4 rfl) ?_
          refine va_calli (va_runV (As := [.int x4_1]) (rest := [.int r3]) ⟨hx, hb, hml, hown, ht⟩ (c_Board_doorsOf l D cA ad hI H.size x4_1 S (fun hn => hs (by rw [hn] at hf; exact hf.symm))) (cwV 1 ht (good_G (gV mM_MK_131 mI_Board_doorsOf mV_Board_doorsOf mN_Board mk_Board_doorsOf)) rfl rfl rfl (by decide +kernel) ⟨Nat.le_of_ble_eq_true rfl, Nat.le_of_ble_eq_true rfl⟩) ⟨fun a U g mk q => ⟨q.1, q.2.1, q.2.2.1, va_K.moved (u := U) (U := U.calling g mk a) (Vm.Alike.refl U.vm) q.2.2.2⟩, va_recv hK hP (ci := 2) (q0 := 2) rfl Xa_2, fun U hU hW => ⟨rfl, by rw [hU], by rw [hU]; exact hP, va_K.moved hW.alike hK⟩⟩ rfl rfl hl.1 rfl (lv_room (Nat.le_of_ble_eq_true rfl)) d_MK_heirs_48 ⟨Nat.le_of_ble_eq_true rfl, Nat.le_of_ble_eq_true rfl⟩) hS (fun q _ h => hAS _ hS.1 q h) (fun q h => hAS _ hS.1 q h) (fun r4 _ t H locs ht9 hvm hw hB hz1 hk1 hS => ?_)
          obtain ⟨hP, hK9⟩ := hB
          rw [ht9] at hP
          rw [hw, Option.bind_some] at hf
          refine lv_iconst (v := (-1)) hx hb d_MK_heirs_51 (by decide) ?_
          refine lv_ixor hx hb d_MK_heirs_52 ?_
          refine lv_iand hx hb d_MK_heirs_53 ?_
          refine lv_if_ne (tgt := 64) hx hb d_MK_heirs_54 (by decide) (fun c3 => ?_) (fun c3 => ?_)
          · rw [if_neg c3] at hf
            refine lv_iinc (v := x4_1 + 1) (lv' := [(4, .int (x4_1 + 1)), (0, .ref (ad 0)), (1, .int a1), (2, .int r3), (3, .int x3_1)]) hx hb d_MK_heirs_64 hl (k := 4) rfl rfl (by decide) rfl (fun ls hl => ?_)
            refine lv_goto (tgt := 23) hx hb d_MK_heirs_67 (by decide) ?_
            exact ih x3_1 (x4_1 + 1) _ _ _ hP hS (lv_sub hl [1, 2, 3, 4, 0] rfl) (fun hn => hs (hf.symm.trans hn)) (fun v ho => hexit v (hf.symm.trans ho))
          · rw [if_pos c3] at hf
            refine lv_iload_n hx hb d_MK_heirs_57 rfl (lv_at hl 3 rfl) ?_
            refine lv_iconst (v := 1) hx hb d_MK_heirs_58 (by decide) ?_
            refine lv_iload hx hb d_MK_heirs_59 (lv_at hl 4 rfl) ?_
            refine lv_ishl hx hb d_MK_heirs_61 ?_
            refine lv_ior hx hb d_MK_heirs_62 ?_
            refine lv_istore_n (lv' := [(3, .int (x3_1 ||| ((1 : Int32) <<< (x4_1 &&& 31)))), (0, .ref (ad 0)), (1, .int a1), (2, .int r3), (4, .int x4_1)]) hx hb d_MK_heirs_63 rfl hl (by decide) rfl (fun ls hl => ?_)
            refine lv_iinc (v := x4_1 + 1) (lv' := [(4, .int (x4_1 + 1)), (3, .int (x3_1 ||| ((1 : Int32) <<< (x4_1 &&& 31)))), (0, .ref (ad 0)), (1, .int a1), (2, .int r3)]) hx hb d_MK_heirs_64 hl (k := 4) rfl rfl (by decide) rfl (fun ls hl => ?_)
            refine lv_goto (tgt := 23) hx hb d_MK_heirs_67 (by decide) ?_
            exact ih (x3_1 ||| ((1 : Int32) <<< (x4_1 &&& 31))) (x4_1 + 1) _ _ _ hP hS (lv_sub hl [2, 3, 4, 1, 0] rfl) (fun hn => hs (hf.symm.trans hn)) (fun v ho => hexit v (hf.symm.trans ho))
  refine lp23_1 FU (0 : Int32) (0 : Int32) _ _ _ hP hS (lv_sub hl [3, 4, 2, 1, 0] rfl) (fun hn => ?_) (fun v4 hvv4 H locs ls hP hS hl => ?_)
  · rw [hn] at hf; exact hs hf.symm
  · rw [hvv4, Option.bind_some] at hf
    refine lv_iload_n hx hb d_MK_heirs_70 rfl (lv_at hl 3 rfl) ?_
    rw [← hQ]
    refine vx_ret ?_
    exact W.iret (v := v4) hx hb hr (fun t ht hW => ⟨⟨v4, (), rfl, hf.symm, by rw [ht]; exact hP, va_K.moved hW.alike hK⟩, hS.F ht⟩) hS.2.2 d_MK_heirs_71
