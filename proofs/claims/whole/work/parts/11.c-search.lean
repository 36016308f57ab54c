set_option maxHeartbeats 4000000 in
set_option maxRecDepth 100000 in
theorem c_Search_stands (l : Launch) (D : va_G) (cA : Nat → ClassId) (ad : Nat → Nat) (hI : InjA ad) (sz : Nat) (S : SS) (hs : f_Search_stands S ≠ none) : Met l y_Search_stands w_Search_stands ({ frames := 4, cells := 0, slots := 0, locals := 98 }) (va_Pc [.ref (ad 3)] (fun U => U.heap.size = sz ∧ va_P D vwCl (X cA ad S) U.heap ∧ va_K D vwCl (tysX cA) U)) (va_Qi (fun (r : Int32) (u : SS) => f_Search_stands S = some (r, u) ∧ (r = 0 ∨ r = 1)) (fun (u : SS) t => va_P D vwCl (X cA ad u) t.heap ∧ va_K D vwCl (tysX cA) t) (AS ad sz)) 0 0 (AS ad sz) := by
  refine Met.ofW (cc := b_Search_stands) (maxL := 2) (ret := (some .boolean)) (by decide) rfl ?_
  intro p e s m args below meth c s₁ B hml hv
  obtain ⟨rfl, hsz, hP, hK⟩ := hv
  have hx := B.exec
  have hb := B.bytes
  have hr := B.returns
  have hts := atoms_spec (ws := w_Search_stands) B.pre
  have ht := fun w h => hts w (List.mem_cons_of_mem _ h)
  have hown : s.vm.findClass R_Search = some m.cls := findClass_of_methodNamed B.named
  have hlocks := B.notSynchronized
  subst hsz
  have hAd : ∀ q, q < NP → AS ad s.heap.size (ad q) := fun q h => Or.inl ⟨q, h, rfl⟩
  have hA : ∀ q : Nat, s.heap.size ≤ q → AS ad s.heap.size q := fun q h => Or.inr h
  have hAS : ∀ z : Nat, s.heap.size ≤ z → ∀ q : Nat, AS ad z q → AS ad s.heap.size q := fun z h q hq => hq.elim Or.inl (fun g => Or.inr (Nat.le_trans h g))
  generalize hAe : AS ad s.heap.size = A at hAd hA hAS ⊢
  have hS : va_S A s.heap s.heap [] := va_S.rf
  have hl := lv_entry ([.ref (ad 3)]) (n := 2) (Nat.le_of_ble_eq_true rfl)
  rw [lg_entry_eq]
  generalize (lg_sl ([.ref (ad 3)]) ++ List.replicate (2 - (lg_sl ([.ref (ad 3)])).length) Slot.unset).toArray = ls at hl ⊢
  have hl : lv_has ls 2 [(0, .ref (ad 3))] := hl
  have hf := (f_Search_stands_s S).symm
  generalize hQ : MQ below _ _ s _ _ _ = Q
  refine lv_aload_n hx hb d_Search_stands_0 rfl (lv_at hl 0 rfl) ?_
  refine va_get (D := D) (ci := 3) (v := .ref (ad 2)) (C := R_Search) (T := T_Search) (N := 5) hx hb ht i_Search hown hK hP 3 Xa_3 rfl 1 (by decide) (ht _ mF_Search_15) (fun _ h9 => h9) rfl d_Search_stands_1 ?_
  refine va_get (D := D) (ci := 2) (v := .ref (ad 6)) (C := R_Board) (T := T_Board) (N := 7) hx hb ht i_Board hown hK hP 2 Xa_2 rfl 4 (by decide) (ht _ mF_Search_29) (fun _ h9 => h9) rfl d_Search_stands_4 ?_
  refine lv_aload_n hx hb d_Search_stands_7 rfl (lv_at hl 0 rfl) ?_
  refine va_get (D := D) (ci := 3) (v := .int (S.1 3 3)) (C := R_Search) (T := T_Search) (N := 5) hx hb ht i_Search hown hK hP 3 Xa_3 rfl 3 (by decide) (ht _ mF_Search_23) (fun _ h9 => h9) rfl d_Search_stands_8 ?_
  by_cases b1 : oob (S.1 3 3) 8
  · rw [if_pos b1] at hf; exact absurd hf.symm hs
  rw [if_neg b1] at hf
  refine gz_aald hx hb hK hP 6 2 Xa_6 rfl b1 d_Search_stands_11 ?_
  rw [X_row b1]
  refine lv_astore_n (lv' := [(1, .ref (ad (10 + (S.1 3 3).toNatClampNeg))), (0, .ref (ad 3))]) hx hb d_Search_stands_12 rfl hl (by decide) rfl (fun ls hl => ?_)
  refine lv_aload_n hx hb d_Search_stands_13 rfl (lv_at hl 1 rfl) ?_
  refine va_get (D := D) (ci := 3) (v := .int (S.1 3 4)) (C := R_Search) (T := T_Search) (N := 5) hx hb ht i_Search hown hK hP 3 Xa_3 rfl 4 (by decide) (ht _ mF_Search_26) (fun _ h9 => h9) rfl d_Search_stands_14 ?_
  refine lv_if_le (tgt := 46) hx hb d_Search_stands_17 (by decide) (fun c2 => ?_) (fun c2 => ?_)
  · rw [if_pos c2] at hf
    refine lv_aload_n hx hb d_Search_stands_46 rfl (lv_at hl 1 rfl) ?_
    refine va_get (D := D) (ci := 3) (v := .int (S.1 3 4)) (C := R_Search) (T := T_Search) (N := 5) hx hb ht i_Search hown hK hP 3 Xa_3 rfl 4 (by decide) (ht _ mF_Search_26) (fun _ h9 => h9) rfl d_Search_stands_47 ?_
    refine lv_aload_n hx hb d_Search_stands_50 rfl (lv_at hl 1 rfl) ?_
    refine va_get (D := D) (ci := 3) (v := .ref (ad 1)) (C := R_Search) (T := T_Search) (N := 5) hx hb ht i_Search hown hK hP 3 Xa_3 rfl 0 (by decide) (ht _ mF_Search_9) (fun _ h9 => h9) rfl d_Search_stands_51 ?_
    refine va_get (D := D) (ci := 1) (v := .int (S.1 1 0)) (C := R_Law) (T := T_Law) (N := 5) hx hb ht i_Law hown hK hP 1 Xa_1 rfl 0 (by decide) (ht _ mF_Search_51) (fun _ h9 => h9) rfl d_Search_stands_54 ?_
    refine lv_iconst (v := 1) hx hb d_Search_stands_57 (by decide) ?_
    refine lv_isub hx hb d_Search_stands_58 ?_
    refine lv_icmp_lt (tgt := 76) hx hb d_Search_stands_59 (by decide) (fun c3 => ?_) (fun c3 => ?_)
    · rw [if_pos c3] at hf
      refine lv_iconst (v := 1) hx hb d_Search_stands_76 (by decide) ?_
      refine lv_goto (tgt := 81) hx hb d_Search_stands_77 (by decide) ?_
      rw [← hQ]
      have hz : (1 : Int32) = 0 ∨ (1 : Int32) = 1 := Or.inr rfl
      exact W.zret (v := (1 : Int32)) hx hb hr (zb_n hz) (fun t ht hW => ⟨⟨(1 : Int32), S, rfl, ⟨hf.symm, hz⟩, by rw [ht]; exact hP, va_K.moved hW.alike hK⟩, hS.F ht⟩) hS.2.2 d_Search_stands_81
    · rw [if_neg c3] at hf
      refine lv_aload_n hx hb d_Search_stands_62 rfl (lv_at hl 1 rfl) ?_
      refine va_get (D := D) (ci := 3) (v := .ref (ad 2)) (C := R_Search) (T := T_Search) (N := 5) hx hb ht i_Search hown hK hP 3 Xa_3 rfl 1 (by decide) (ht _ mF_Search_15) (fun _ h9 => h9) rfl d_Search_stands_63 ?_
      refine lv_aload_n hx hb d_Search_stands_66 rfl (lv_at hl 1 rfl) ?_
      refine va_get (D := D) (ci := 3) (v := .int (S.1 3 3)) (C := R_Search) (T := T_Search) (N := 5) hx hb ht i_Search hown hK hP 3 Xa_3 rfl 3 (by decide) (ht _ mF_Search_23) (fun _ h9 => h9) rfl d_Search_stands_67 ?_
      refine va_calli (va_runV (As := [.int (S.1 3 3)]) (rest := []) ⟨hx, hb, hml, hown, ht⟩ (c_Board_accepts l D cA ad hI s.heap.size (S.1 3 3) S (fun hn => hs (by rw [hn] at hf; exact hf.symm))) (cwV 1 ht (good_G (gV mM_Search_54 mI_Board_accepts mV_Board_accepts mN_Board mk_Board_accepts)) rfl rfl rfl (by decide +kernel) ⟨Nat.le_of_ble_eq_true rfl, Nat.le_of_ble_eq_true rfl⟩) ⟨fun a U g mk q => ⟨q.1, q.2.1, q.2.2.1, va_K.moved (u := U) (U := U.calling g mk a) (Vm.Alike.refl U.vm) q.2.2.2⟩, va_recv hK hP (ci := 2) (q0 := 2) rfl Xa_2, fun U hU hW => ⟨rfl, by rw [hU], by rw [hU]; exact hP, va_K.moved hW.alike hK⟩⟩ rfl rfl hl.1 rfl (lv_room (Nat.le_of_ble_eq_true rfl)) d_Search_stands_70 ⟨Nat.le_of_ble_eq_true rfl, Nat.le_of_ble_eq_true rfl⟩) hS (fun q _ h => hAS _ hS.1 q h) (fun q h => hAS _ hS.1 q h) (fun r1 u1 t H locs ht9 hvm hw hB hz1 hk1 hS => ?_)
      obtain ⟨hP, hK9⟩ := hB
      rw [ht9] at hP
      obtain ⟨hw, hz1⟩ := hw
      rw [hw, Option.bind_some] at hf
      dsimp only at hf
      refine lv_if_eq (tgt := 80) hx hb d_Search_stands_73 (by decide) (fun c4 => ?_) (fun c4 => ?_)
      · rw [if_pos c4] at hf
        refine lv_iconst (v := 0) hx hb d_Search_stands_80 (by decide) ?_
        rw [← hQ]
        have hz : (0 : Int32) = 0 ∨ (0 : Int32) = 1 := Or.inl rfl
        exact W.zret (v := (0 : Int32)) hx hb hr (zb_n hz) (fun t ht hW => ⟨⟨(0 : Int32), u1, rfl, ⟨hf.symm, hz⟩, by rw [ht]; exact hP, va_K.moved hW.alike hK⟩, hS.F ht⟩) hS.2.2 d_Search_stands_81
      · rw [if_neg c4] at hf
        refine lv_iconst (v := 1) hx hb d_Search_stands_76 (by decide) ?_
        refine lv_goto (tgt := 81) hx hb d_Search_stands_77 (by decide) ?_
        rw [← hQ]
        have hz : (1 : Int32) = 0 ∨ (1 : Int32) = 1 := Or.inr rfl
        exact W.zret (v := (1 : Int32)) hx hb hr (zb_n hz) (fun t ht hW => ⟨⟨(1 : Int32), u1, rfl, ⟨hf.symm, hz⟩, by rw [ht]; exact hP, va_K.moved hW.alike hK⟩, hS.F ht⟩) hS.2.2 d_Search_stands_81
  · rw [if_neg c2] at hf
    refine lv_aload_n hx hb d_Search_stands_20 rfl (lv_at hl 1 rfl) ?_
    refine va_get (D := D) (ci := 3) (v := .ref (ad 1)) (C := R_Search) (T := T_Search) (N := 5) hx hb ht i_Search hown hK hP 3 Xa_3 rfl 0 (by decide) (ht _ mF_Search_9) (fun _ h9 => h9) rfl d_Search_stands_21 ?_
    refine lv_aload_n hx hb d_Search_stands_24 rfl (lv_at hl 0 rfl) ?_
    refine lv_aload_n hx hb d_Search_stands_25 rfl (lv_at hl 1 rfl) ?_
    refine va_get (D := D) (ci := 3) (v := .int (S.1 3 4)) (C := R_Search) (T := T_Search) (N := 5) hx hb ht i_Search hown hK hP 3 Xa_3 rfl 4 (by decide) (ht _ mF_Search_26) (fun _ h9 => h9) rfl d_Search_stands_26 ?_
    refine lv_iconst (v := 1) hx hb d_Search_stands_29 (by decide) ?_
    refine lv_isub hx hb d_Search_stands_30 ?_
    by_cases b5 : oob ((S.1 3 4) - (1 : Int32)) 6
    · rw [if_pos b5] at hf; exact absurd hf.symm hs
    rw [if_neg b5] at hf
    refine va_iald (f := S.1 (10 + (S.1 3 3).toNatClampNeg)) hx hb hK hP (10 + (S.1 3 3).toNatClampNeg) 0 (X_rowat6 b1) rfl b5 d_Search_stands_31 ?_
    refine lv_aload_n hx hb d_Search_stands_32 rfl (lv_at hl 0 rfl) ?_
    refine lv_aload_n hx hb d_Search_stands_33 rfl (lv_at hl 1 rfl) ?_
    refine va_get (D := D) (ci := 3) (v := .int (S.1 3 4)) (C := R_Search) (T := T_Search) (N := 5) hx hb ht i_Search hown hK hP 3 Xa_3 rfl 4 (by decide) (ht _ mF_Search_26) (fun _ h9 => h9) rfl d_Search_stands_34 ?_
    by_cases b6 : oob (S.1 3 4) 6
    · rw [if_pos b6] at hf; exact absurd hf.symm hs
    rw [if_neg b6] at hf
    refine va_iald (f := S.1 (10 + (S.1 3 3).toNatClampNeg)) hx hb hK hP (10 + (S.1 3 3).toNatClampNeg) 0 (X_rowat6 b1) rfl b6 d_Search_stands_37 ?_
    refine va_calli (va_runV (As := [.int (S.1 (10 + (S.1 3 3).toNatClampNeg) ((S.1 3 4) - (1 : Int32)).toNatClampNeg), .int (S.1 (10 + (S.1 3 3).toNatClampNeg) (S.1 3 4).toNatClampNeg)]) (rest := []) ⟨hx, hb, hml, hown, ht⟩ (c_Law_mayFollow l D cA ad hI s.heap.size (S.1 (10 + (S.1 3 3).toNatClampNeg) ((S.1 3 4) - (1 : Int32)).toNatClampNeg) (S.1 (10 + (S.1 3 3).toNatClampNeg) (S.1 3 4).toNatClampNeg) S (fun hn => hs (by rw [hn] at hf; exact hf.symm))) (cwV 2 ht (good_G (gV mM_Search_45 mI_Law_mayFollow mV_Law_mayFollow mN_Law mk_Law_mayFollow)) rfl rfl rfl (by decide +kernel) ⟨Nat.le_of_ble_eq_true rfl, Nat.le_of_ble_eq_true rfl⟩) ⟨fun a U g mk q => ⟨q.1, q.2.1, q.2.2.1, va_K.moved (u := U) (U := U.calling g mk a) (Vm.Alike.refl U.vm) q.2.2.2⟩, va_recv hK hP (ci := 1) (q0 := 1) rfl Xa_1, fun U hU hW => ⟨rfl, by rw [hU], by rw [hU]; exact hP, va_K.moved hW.alike hK⟩⟩ rfl rfl hl.1 rfl (lv_room (Nat.le_of_ble_eq_true rfl)) d_Search_stands_38 ⟨Nat.le_of_ble_eq_true rfl, Nat.le_of_ble_eq_true rfl⟩) hS (fun q _ h => hAS _ hS.1 q h) (fun q h => hAS _ hS.1 q h) (fun r2 _ t H locs ht9 hvm hw hB hz1 hk1 hS => ?_)
    obtain ⟨hP, hK9⟩ := hB
    rw [ht9] at hP
    obtain ⟨hw, hz2⟩ := hw
    rw [hw, Option.bind_some] at hf
    refine lv_if_ne (tgt := 46) hx hb d_Search_stands_41 (by decide) (fun c7 => ?_) (fun c7 => ?_)
    · rw [if_neg c7] at hf
      refine lv_aload_n hx hb d_Search_stands_46 rfl (lv_at hl 1 rfl) ?_
      refine va_get (D := D) (ci := 3) (v := .int (S.1 3 4)) (C := R_Search) (T := T_Search) (N := 5) hx hb ht i_Search hown hK hP 3 Xa_3 rfl 4 (by decide) (ht _ mF_Search_26) (fun _ h9 => h9) rfl d_Search_stands_47 ?_
      refine lv_aload_n hx hb d_Search_stands_50 rfl (lv_at hl 1 rfl) ?_
      refine va_get (D := D) (ci := 3) (v := .ref (ad 1)) (C := R_Search) (T := T_Search) (N := 5) hx hb ht i_Search hown hK hP 3 Xa_3 rfl 0 (by decide) (ht _ mF_Search_9) (fun _ h9 => h9) rfl d_Search_stands_51 ?_
      refine va_get (D := D) (ci := 1) (v := .int (S.1 1 0)) (C := R_Law) (T := T_Law) (N := 5) hx hb ht i_Law hown hK hP 1 Xa_1 rfl 0 (by decide) (ht _ mF_Search_51) (fun _ h9 => h9) rfl d_Search_stands_54 ?_
      refine lv_iconst (v := 1) hx hb d_Search_stands_57 (by decide) ?_
      refine lv_isub hx hb d_Search_stands_58 ?_
      refine lv_icmp_lt (tgt := 76) hx hb d_Search_stands_59 (by decide) (fun c8 => ?_) (fun c8 => ?_)
      · rw [if_pos c8] at hf
        refine lv_iconst (v := 1) hx hb d_Search_stands_76 (by decide) ?_
        refine lv_goto (tgt := 81) hx hb d_Search_stands_77 (by decide) ?_
        rw [← hQ]
        have hz : (1 : Int32) = 0 ∨ (1 : Int32) = 1 := Or.inr rfl
        exact W.zret (v := (1 : Int32)) hx hb hr (zb_n hz) (fun t ht hW => ⟨⟨(1 : Int32), S, rfl, ⟨hf.symm, hz⟩, by rw [ht]; exact hP, va_K.moved hW.alike hK⟩, hS.F ht⟩) hS.2.2 d_Search_stands_81
      · rw [if_neg c8] at hf
        refine lv_aload_n hx hb d_Search_stands_62 rfl (lv_at hl 1 rfl) ?_
        refine va_get (D := D) (ci := 3) (v := .ref (ad 2)) (C := R_Search) (T := T_Search) (N := 5) hx hb ht i_Search hown hK hP 3 Xa_3 rfl 1 (by decide) (ht _ mF_Search_15) (fun _ h9 => h9) rfl d_Search_stands_63 ?_
        refine lv_aload_n hx hb d_Search_stands_66 rfl (lv_at hl 1 rfl) ?_
        refine va_get (D := D) (ci := 3) (v := .int (S.1 3 3)) (C := R_Search) (T := T_Search) (N := 5) hx hb ht i_Search hown hK hP 3 Xa_3 rfl 3 (by decide) (ht _ mF_Search_23) (fun _ h9 => h9) rfl d_Search_stands_67 ?_
        refine va_calli (va_runV (As := [.int (S.1 3 3)]) (rest := []) ⟨hx, hb, hml, hown, ht⟩ (c_Board_accepts l D cA ad hI H.size (S.1 3 3) S (fun hn => hs (by rw [hn] at hf; exact hf.symm))) (cwV 1 ht (good_G (gV mM_Search_54 mI_Board_accepts mV_Board_accepts mN_Board mk_Board_accepts)) rfl rfl rfl (by decide +kernel) ⟨Nat.le_of_ble_eq_true rfl, Nat.le_of_ble_eq_true rfl⟩) ⟨fun a U g mk q => ⟨q.1, q.2.1, q.2.2.1, va_K.moved (u := U) (U := U.calling g mk a) (Vm.Alike.refl U.vm) q.2.2.2⟩, va_recv hK hP (ci := 2) (q0 := 2) rfl Xa_2, fun U hU hW => ⟨rfl, by rw [hU], by rw [hU]; exact hP, va_K.moved hW.alike hK⟩⟩ rfl rfl hl.1 rfl (lv_room (Nat.le_of_ble_eq_true rfl)) d_Search_stands_70 ⟨Nat.le_of_ble_eq_true rfl, Nat.le_of_ble_eq_true rfl⟩) hS (fun q _ h => hAS _ hS.1 q h) (fun q h => hAS _ hS.1 q h) (fun r3 u3 t H locs ht9 hvm hw hB hz1 hk1 hS => ?_)
        obtain ⟨hP, hK9⟩ := hB
        rw [ht9] at hP
        obtain ⟨hw, hz3⟩ := hw
        rw [hw, Option.bind_some] at hf
        dsimp only at hf
        refine lv_if_eq (tgt := 80) hx hb d_Search_stands_73 (by decide) (fun c9 => ?_) (fun c9 => ?_)
        · rw [if_pos c9] at hf
          refine lv_iconst (v := 0) hx hb d_Search_stands_80 (by decide) ?_
          rw [← hQ]
          have hz : (0 : Int32) = 0 ∨ (0 : Int32) = 1 := Or.inl rfl
          exact W.zret (v := (0 : Int32)) hx hb hr (zb_n hz) (fun t ht hW => ⟨⟨(0 : Int32), u3, rfl, ⟨hf.symm, hz⟩, by rw [ht]; exact hP, va_K.moved hW.alike hK⟩, hS.F ht⟩) hS.2.2 d_Search_stands_81
        · rw [if_neg c9] at hf
          refine lv_iconst (v := 1) hx hb d_Search_stands_76 (by decide) ?_
          refine lv_goto (tgt := 81) hx hb d_Search_stands_77 (by decide) ?_
          rw [← hQ]
          have hz : (1 : Int32) = 0 ∨ (1 : Int32) = 1 := Or.inr rfl
          exact W.zret (v := (1 : Int32)) hx hb hr (zb_n hz) (fun t ht hW => ⟨⟨(1 : Int32), u3, rfl, ⟨hf.symm, hz⟩, by rw [ht]; exact hP, va_K.moved hW.alike hK⟩, hS.F ht⟩) hS.2.2 d_Search_stands_81
    · rw [if_pos c7] at hf
      refine lv_iconst (v := 0) hx hb d_Search_stands_44 (by decide) ?_
      rw [← hQ]
      have hz : (0 : Int32) = 0 ∨ (0 : Int32) = 1 := Or.inl rfl
      exact W.zret (v := (0 : Int32)) hx hb hr (zb_n hz) (fun t ht hW => ⟨⟨(0 : Int32), S, rfl, ⟨hf.symm, hz⟩, by rw [ht]; exact hP, va_K.moved hW.alike hK⟩, hS.F ht⟩) hS.2.2 d_Search_stands_45
set_option maxHeartbeats 4000000 in
set_option maxRecDepth 100000 in
theorem c_Search_goBack (l : Launch) (D : va_G) (cA : Nat → ClassId) (ad : Nat → Nat) (hI : InjA ad) (sz : Nat) (S : SS) (hs : f_Search_goBack S ≠ none) : Met l y_Search_goBack w_Search_goBack ({ frames := 0, cells := 0, slots := 0, locals := 0 }) (va_Pc [.ref (ad 3)] (fun U => U.heap.size = sz ∧ va_P D vwCl (X cA ad S) U.heap ∧ va_K D vwCl (tysX cA) U)) (va_Qi (fun (r : Int32) (u : SS) => f_Search_goBack S = some (r, u) ∧ (r = 0 ∨ r = 1)) (fun (u : SS) t => va_P D vwCl (X cA ad u) t.heap ∧ va_K D vwCl (tysX cA) t) (AS ad sz)) 0 0 (AS ad sz) := by
  refine Met.ofW (cc := b_Search_goBack) (maxL := 1) (ret := (some .boolean)) (by decide) rfl ?_
  intro p e s m args below meth c s₁ B hml hv
  obtain ⟨rfl, hsz, hP, hK⟩ := hv
  have hx := B.exec
  have hb := B.bytes
  have hr := B.returns
  have hts := atoms_spec (ws := w_Search_goBack) B.pre
  have ht := fun w h => hts w (List.mem_cons_of_mem _ h)
  have hown : s.vm.findClass R_Search = some m.cls := findClass_of_methodNamed B.named
  have hlocks := B.notSynchronized
  subst hsz
  have hAd : ∀ q, q < NP → AS ad s.heap.size (ad q) := fun q h => Or.inl ⟨q, h, rfl⟩
  have hA : ∀ q : Nat, s.heap.size ≤ q → AS ad s.heap.size q := fun q h => Or.inr h
  have hAS : ∀ z : Nat, s.heap.size ≤ z → ∀ q : Nat, AS ad z q → AS ad s.heap.size q := fun z h q hq => hq.elim Or.inl (fun g => Or.inr (Nat.le_trans h g))
  generalize hAe : AS ad s.heap.size = A at hAd hA hAS ⊢
  have hS : va_S A s.heap s.heap [] := va_S.rf
  have hl := lv_entry ([.ref (ad 3)]) (n := 1) (Nat.le_of_ble_eq_true rfl)
  rw [lg_entry_eq]
  generalize (lg_sl ([.ref (ad 3)]) ++ List.replicate (1 - (lg_sl ([.ref (ad 3)])).length) Slot.unset).toArray = ls at hl ⊢
  have hl : lv_has ls 1 [(0, .ref (ad 3))] := hl
  have hf := (f_Search_goBack_s S).symm
  generalize hQ : MQ below _ _ s _ _ _ = Q
  have lp0_1 : ∀ (n : Nat) (Sx : SS) (H : Heap) (locs : List Loc) (ls : Array Slot), va_P D vwCl (X cA ad Sx) H → va_S A s.heap H locs → lv_has ls 1 [(0, .ref (ad 3))] → f_Search_goBack_L0 n Sx ≠ none →
      (∀ o : Int32 × SS, f_Search_goBack_L0 n Sx = some (.inl o) → f_Search_goBack S = some o) →
      (∀ v : SS, f_Search_goBack_L0 n Sx = some (.inr v) → ∀ (H : Heap) (locs : List Loc) (ls : Array Slot), va_P D vwCl (X cA ad v) H → va_S A s.heap H locs → lv_has ls 1 [(0, .ref (ad 3))] → W p l e (headSpec w_Search_goBack ({ frames := 0, cells := 0, slots := 0, locals := 0 })).room s m ([.ref (ad 3)] : List Value).toArray below meth c H locs 0 0 Q (F0 m 84 ls [])) →
      W p l e (headSpec w_Search_goBack ({ frames := 0, cells := 0, slots := 0, locals := 0 })).room s m ([.ref (ad 3)] : List Value).toArray below meth c H locs 0 0 Q (F0 m 0 ls []) := by
    intro n
    induction n with
    | zero => intro Sx H locs ls hP hS hl hs; exact absurd rfl hs
    | succ n ih =>
      intro Sx H locs ls hP hS hl hs hret hexit
      have hf := (f_Search_goBack_L0_s n Sx).symm
      refine lv_aload_n hx hb d_Search_goBack_0 rfl (lv_at hl 0 rfl) ?_
      refine va_get (D := D) (ci := 3) (v := .int (Sx.1 3 3)) (C := R_Search) (T := T_Search) (N := 5) hx hb ht i_Search hown hK hP 3 Xa_3 rfl 3 (by decide) (ht _ mF_Search_23) (fun _ h9 => h9) rfl d_Search_goBack_1 ?_
      refine lv_if_lt (tgt := 84) hx hb d_Search_goBack_4 (by decide) (fun c1 => ?_) (fun c1 => ?_)
      · rw [if_pos c1] at hf
        exact hexit _ hf.symm _ _ _ hP hS (lv_sub hl [0] rfl)
      · rw [if_neg c1] at hf
        have lp7_2 : ∀ (n : Nat) (Sx : SS) (H : Heap) (locs : List Loc) (ls : Array Slot), va_P D vwCl (X cA ad Sx) H → va_S A s.heap H locs → lv_has ls 1 [(0, .ref (ad 3))] → f_Search_goBack_L7 n Sx ≠ none →
            (∀ o : Int32 × SS, f_Search_goBack_L7 n Sx = some (.inl o) → f_Search_goBack S = some o) →
            (∀ v : SS, f_Search_goBack_L7 n Sx = some (.inr v) → ∀ (H : Heap) (locs : List Loc) (ls : Array Slot), va_P D vwCl (X cA ad v) H → va_S A s.heap H locs → lv_has ls 1 [(0, .ref (ad 3))] → W p l e (headSpec w_Search_goBack ({ frames := 0, cells := 0, slots := 0, locals := 0 })).room s m ([.ref (ad 3)] : List Value).toArray below meth c H locs 0 0 Q (F0 m 58 ls [])) →
            W p l e (headSpec w_Search_goBack ({ frames := 0, cells := 0, slots := 0, locals := 0 })).room s m ([.ref (ad 3)] : List Value).toArray below meth c H locs 0 0 Q (F0 m 7 ls []) := by
          intro n
          induction n with
          | zero => intro Sx H locs ls hP hS hl hs; exact absurd rfl hs
          | succ n ih =>
            intro Sx H locs ls hP hS hl hs hret hexit
            have hf := (f_Search_goBack_L7_s n Sx).symm
            refine lv_aload_n hx hb d_Search_goBack_7 rfl (lv_at hl 0 rfl) ?_
            refine va_get (D := D) (ci := 3) (v := .int (Sx.1 3 4)) (C := R_Search) (T := T_Search) (N := 5) hx hb ht i_Search hown hK hP 3 Xa_3 rfl 4 (by decide) (ht _ mF_Search_26) (fun _ h9 => h9) rfl d_Search_goBack_8 ?_
            refine lv_if_lt (tgt := 58) hx hb d_Search_goBack_11 (by decide) (fun c2 => ?_) (fun c2 => ?_)
            · rw [if_pos c2] at hf
              exact hexit _ hf.symm _ _ _ hP hS (lv_sub hl [0] rfl)
            · rw [if_neg c2] at hf
              refine lv_aload_n hx hb d_Search_goBack_14 rfl (lv_at hl 0 rfl) ?_
              refine va_get (D := D) (ci := 3) (v := .ref (ad 2)) (C := R_Search) (T := T_Search) (N := 5) hx hb ht i_Search hown hK hP 3 Xa_3 rfl 1 (by decide) (ht _ mF_Search_15) (fun _ h9 => h9) rfl d_Search_goBack_15 ?_
              refine va_get (D := D) (ci := 2) (v := .ref (ad 6)) (C := R_Board) (T := T_Board) (N := 7) hx hb ht i_Board hown hK hP 2 Xa_2 rfl 4 (by decide) (ht _ mF_Search_29) (fun _ h9 => h9) rfl d_Search_goBack_18 ?_
              refine lv_aload_n hx hb d_Search_goBack_21 rfl (lv_at hl 0 rfl) ?_
              refine va_get (D := D) (ci := 3) (v := .int (Sx.1 3 3)) (C := R_Search) (T := T_Search) (N := 5) hx hb ht i_Search hown hK hP 3 Xa_3 rfl 3 (by decide) (ht _ mF_Search_23) (fun _ h9 => h9) rfl d_Search_goBack_22 ?_
              by_cases b3 : oob (Sx.1 3 3) 8
              · rw [if_pos b3] at hf; exact absurd hf.symm hs
              rw [if_neg b3] at hf
              refine gz_aald hx hb hK hP 6 2 Xa_6 rfl b3 d_Search_goBack_25 ?_
              rw [X_row b3]
              refine lv_aload_n hx hb d_Search_goBack_26 rfl (lv_at hl 0 rfl) ?_
              refine va_get (D := D) (ci := 3) (v := .int (Sx.1 3 4)) (C := R_Search) (T := T_Search) (N := 5) hx hb ht i_Search hown hK hP 3 Xa_3 rfl 4 (by decide) (ht _ mF_Search_26) (fun _ h9 => h9) rfl d_Search_goBack_27 ?_
              by_cases b4 : oob (Sx.1 3 4) 6
              · rw [if_pos b4] at hf; exact absurd hf.symm hs
              rw [if_neg b4] at hf
              refine va_iald (f := Sx.1 (10 + (Sx.1 3 3).toNatClampNeg)) hx hb hK hP (10 + (Sx.1 3 3).toNatClampNeg) 0 (X_rowat6 b3) rfl b4 d_Search_goBack_30 ?_
              refine lv_aload_n hx hb d_Search_goBack_31 rfl (lv_at hl 0 rfl) ?_
              refine va_get (D := D) (ci := 3) (v := .ref (ad 1)) (C := R_Search) (T := T_Search) (N := 5) hx hb ht i_Search hown hK hP 3 Xa_3 rfl 0 (by decide) (ht _ mF_Search_9) (fun _ h9 => h9) rfl d_Search_goBack_32 ?_
              refine va_get (D := D) (ci := 1) (v := .int (Sx.1 1 1)) (C := R_Law) (T := T_Law) (N := 5) hx hb ht i_Law hown hK hP 1 Xa_1 rfl 1 (by decide) (ht _ mF_Search_61) (fun _ h9 => h9) rfl d_Search_goBack_35 ?_
              refine lv_iconst (v := 1) hx hb d_Search_goBack_38 (by decide) ?_
              refine lv_isub hx hb d_Search_goBack_39 ?_
              refine lv_icmp_ge (tgt := 45) hx hb d_Search_goBack_40 (by decide) (fun c5 => ?_) (fun c5 => ?_)
              · rw [if_pos c5] at hf
                refine lv_aload_n hx hb d_Search_goBack_45 rfl (lv_at hl 0 rfl) ?_
                refine lv_dup hx hb d_Search_goBack_46 rfl ?_
                refine va_get (D := D) (ci := 3) (v := .int (Sx.1 3 4)) (C := R_Search) (T := T_Search) (N := 5) hx hb ht i_Search hown hK hP 3 Xa_3 rfl 4 (by decide) (ht _ mF_Search_26) (fun _ h9 => h9) rfl d_Search_goBack_47 ?_
                refine lv_iconst (v := 1) hx hb d_Search_goBack_50 (by decide) ?_
                refine lv_isub hx hb d_Search_goBack_51 ?_
                refine va_put (D := D) (ci := 3) (v := .int ((Sx.1 3 4) - (1 : Int32))) (ty := .int) (C := R_Search) (T := T_Search) (N := 5) hx hb ht i_Search t_Search t_Search_ok n_Search hown hK hP (X_D hI hAd) hS 3 Xa_3 rfl 4 (by decide) (ht _ mF_Search_26) (fun _ h9 => h9) rfl (by decide +kernel) rfl rfl (Nat.le_of_ble_eq_true rfl) d_Search_goBack_52 (fun H locs hP _ hS => ?_)
                replace hP := X_putI (by decide) hP rfl
                refine lv_goto (tgt := 7) hx hb d_Search_goBack_55 (by decide) ?_
                exact ih (wI Sx 3 4 ((Sx.1 3 4) - (1 : Int32))) _ _ _ hP hS (lv_sub hl [0] rfl) (fun hn => hs (hf.symm.trans hn)) (fun o ho => hret o (hf.symm.trans ho)) (fun v ho => hexit v (hf.symm.trans ho))
              · rw [if_neg c5] at hf
                refine lv_iconst (v := 1) hx hb d_Search_goBack_43 (by decide) ?_
                rw [← hQ]
                have hz : (1 : Int32) = 0 ∨ (1 : Int32) = 1 := Or.inr rfl
                exact W.zret (v := (1 : Int32)) hx hb hr (zb_n hz) (fun t ht hW => ⟨⟨(1 : Int32), Sx, rfl, ⟨hret _ hf.symm, hz⟩, by rw [ht]; exact hP, va_K.moved hW.alike hK⟩, hS.F ht⟩) hS.2.2 d_Search_goBack_44
        refine lp7_2 FU Sx _ _ _ hP hS (lv_sub hl [0] rfl) (fun hn => ?_) (fun o ho => ?_) (fun v6 hvv6 H locs ls hP hS hl => ?_)
        · rw [hn] at hf; exact hs hf.symm
        · rw [ho, Option.bind_some, Sum.elim_inl] at hf; exact hret _ hf.symm
        · rw [hvv6, Option.bind_some, Sum.elim_inr] at hf
          refine lv_aload_n hx hb d_Search_goBack_58 rfl (lv_at hl 0 rfl) ?_
          refine lv_aload_n hx hb d_Search_goBack_59 rfl (lv_at hl 0 rfl) ?_
          refine va_get (D := D) (ci := 3) (v := .ref (ad 1)) (C := R_Search) (T := T_Search) (N := 5) hx hb ht i_Search hown hK hP 3 Xa_3 rfl 0 (by decide) (ht _ mF_Search_9) (fun _ h9 => h9) rfl d_Search_goBack_60 ?_
          refine va_get (D := D) (ci := 1) (v := .int (v6.1 1 0)) (C := R_Law) (T := T_Law) (N := 5) hx hb ht i_Law hown hK hP 1 Xa_1 rfl 0 (by decide) (ht _ mF_Search_51) (fun _ h9 => h9) rfl d_Search_goBack_63 ?_
          refine lv_iconst (v := 1) hx hb d_Search_goBack_66 (by decide) ?_
          refine lv_isub hx hb d_Search_goBack_67 ?_
          refine va_put (D := D) (ci := 3) (v := .int ((v6.1 1 0) - (1 : Int32))) (ty := .int) (C := R_Search) (T := T_Search) (N := 5) hx hb ht i_Search t_Search t_Search_ok n_Search hown hK hP (X_D hI hAd) hS 3 Xa_3 rfl 4 (by decide) (ht _ mF_Search_26) (fun _ h9 => h9) rfl (by decide +kernel) rfl rfl (Nat.le_of_ble_eq_true rfl) d_Search_goBack_68 (fun H locs hP _ hS => ?_)
          replace hP := X_putI (by decide) hP rfl
          refine lv_aload_n hx hb d_Search_goBack_71 rfl (lv_at hl 0 rfl) ?_
          refine lv_dup hx hb d_Search_goBack_72 rfl ?_
          refine va_get (D := D) (ci := 3) (v := .int (v6.1 3 3)) (C := R_Search) (T := T_Search) (N := 5) hx hb ht i_Search hown hK hP 3 Xa_3 rfl 3 (by decide) (ht _ mF_Search_23) (fun _ h9 => h9) rfl d_Search_goBack_73 ?_
          refine lv_iconst (v := 1) hx hb d_Search_goBack_76 (by decide) ?_
          refine lv_isub hx hb d_Search_goBack_77 ?_
          refine va_put (D := D) (ci := 3) (v := .int ((v6.1 3 3) - (1 : Int32))) (ty := .int) (C := R_Search) (T := T_Search) (N := 5) hx hb ht i_Search t_Search t_Search_ok n_Search hown hK hP (X_D hI hAd) hS 3 Xa_3 rfl 3 (by decide) (ht _ mF_Search_23) (fun _ h9 => h9) rfl (by decide +kernel) rfl rfl (Nat.le_of_ble_eq_true rfl) d_Search_goBack_78 (fun H locs hP _ hS => ?_)
          replace hP := X_putI (by decide) hP rfl
          refine lv_goto (tgt := 0) hx hb d_Search_goBack_81 (by decide) ?_
          exact ih (wI (wI v6 3 4 ((v6.1 1 0) - (1 : Int32))) 3 3 ((v6.1 3 3) - (1 : Int32))) _ _ _ hP hS (lv_sub hl [0] rfl) (fun hn => hs (hf.symm.trans hn)) (fun o ho => hret o (hf.symm.trans ho)) (fun v ho => hexit v (hf.symm.trans ho))
  refine lp0_1 FU S _ _ _ hP hS (lv_sub hl [0] rfl) (fun hn => ?_) (fun o ho => ?_) (fun v7 hvv7 H locs ls hP hS hl => ?_)
  · rw [hn] at hf; exact hs hf.symm
  · rw [ho, Option.bind_some, Sum.elim_inl] at hf; exact hf.symm
  · rw [hvv7, Option.bind_some, Sum.elim_inr] at hf
    refine lv_iconst (v := 0) hx hb d_Search_goBack_84 (by decide) ?_
    rw [← hQ]
    have hz : (0 : Int32) = 0 ∨ (0 : Int32) = 1 := Or.inl rfl
    exact W.zret (v := (0 : Int32)) hx hb hr (zb_n hz) (fun t ht hW => ⟨⟨(0 : Int32), v7, rfl, ⟨hf.symm, hz⟩, by rw [ht]; exact hP, va_K.moved hW.alike hK⟩, hS.F ht⟩) hS.2.2 d_Search_goBack_85
set_option maxHeartbeats 4000000 in
set_option maxRecDepth 100000 in
theorem c_Search_goOn (l : Launch) (D : va_G) (cA : Nat → ClassId) (ad : Nat → Nat) (hI : InjA ad) (sz : Nat) (S : SS) (hs : f_Search_goOn S ≠ none) : Met l y_Search_goOn w_Search_goOn ({ frames := 0, cells := 0, slots := 0, locals := 0 }) (va_Pc [.ref (ad 3)] (fun U => U.heap.size = sz ∧ va_P D vwCl (X cA ad S) U.heap ∧ va_K D vwCl (tysX cA) U)) (va_Qi (fun (r : Int32) (u : SS) => f_Search_goOn S = some (r, u) ∧ (r = 0 ∨ r = 1)) (fun (u : SS) t => va_P D vwCl (X cA ad u) t.heap ∧ va_K D vwCl (tysX cA) t) (AS ad sz)) 0 0 (AS ad sz) := by
  refine Met.ofW (cc := b_Search_goOn) (maxL := 1) (ret := (some .boolean)) (by decide) rfl ?_
  intro p e s m args below meth c s₁ B hml hv
  obtain ⟨rfl, hsz, hP, hK⟩ := hv
  have hx := B.exec
  have hb := B.bytes
  have hr := B.returns
  have hts := atoms_spec (ws := w_Search_goOn) B.pre
  have ht := fun w h => hts w (List.mem_cons_of_mem _ h)
  have hown : s.vm.findClass R_Search = some m.cls := findClass_of_methodNamed B.named
  have hlocks := B.notSynchronized
  subst hsz
  have hAd : ∀ q, q < NP → AS ad s.heap.size (ad q) := fun q h => Or.inl ⟨q, h, rfl⟩
  have hA : ∀ q : Nat, s.heap.size ≤ q → AS ad s.heap.size q := fun q h => Or.inr h
  have hAS : ∀ z : Nat, s.heap.size ≤ z → ∀ q : Nat, AS ad z q → AS ad s.heap.size q := fun z h q hq => hq.elim Or.inl (fun g => Or.inr (Nat.le_trans h g))
  generalize hAe : AS ad s.heap.size = A at hAd hA hAS ⊢
  have hS : va_S A s.heap s.heap [] := va_S.rf
  have hl := lv_entry ([.ref (ad 3)]) (n := 1) (Nat.le_of_ble_eq_true rfl)
  rw [lg_entry_eq]
  generalize (lg_sl ([.ref (ad 3)]) ++ List.replicate (1 - (lg_sl ([.ref (ad 3)])).length) Slot.unset).toArray = ls at hl ⊢
  have hl : lv_has ls 1 [(0, .ref (ad 3))] := hl
  have hf := (f_Search_goOn_s S).symm
  generalize hQ : MQ below _ _ s _ _ _ = Q
  refine lv_aload_n hx hb d_Search_goOn_0 rfl (lv_at hl 0 rfl) ?_
  refine va_get (D := D) (ci := 3) (v := .int (S.1 3 4)) (C := R_Search) (T := T_Search) (N := 5) hx hb ht i_Search hown hK hP 3 Xa_3 rfl 4 (by decide) (ht _ mF_Search_26) (fun _ h9 => h9) rfl d_Search_goOn_1 ?_
  refine lv_aload_n hx hb d_Search_goOn_4 rfl (lv_at hl 0 rfl) ?_
  refine va_get (D := D) (ci := 3) (v := .ref (ad 1)) (C := R_Search) (T := T_Search) (N := 5) hx hb ht i_Search hown hK hP 3 Xa_3 rfl 0 (by decide) (ht _ mF_Search_9) (fun _ h9 => h9) rfl d_Search_goOn_5 ?_
  refine va_get (D := D) (ci := 1) (v := .int (S.1 1 0)) (C := R_Law) (T := T_Law) (N := 5) hx hb ht i_Law hown hK hP 1 Xa_1 rfl 0 (by decide) (ht _ mF_Search_51) (fun _ h9 => h9) rfl d_Search_goOn_8 ?_
  refine lv_iconst (v := 1) hx hb d_Search_goOn_11 (by decide) ?_
  refine lv_isub hx hb d_Search_goOn_12 ?_
  refine lv_icmp_ge (tgt := 29) hx hb d_Search_goOn_13 (by decide) (fun c1 => ?_) (fun c1 => ?_)
  · rw [if_pos c1] at hf
    refine lv_aload_n hx hb d_Search_goOn_29 rfl (lv_at hl 0 rfl) ?_
    refine va_get (D := D) (ci := 3) (v := .int (S.1 3 3)) (C := R_Search) (T := T_Search) (N := 5) hx hb ht i_Search hown hK hP 3 Xa_3 rfl 3 (by decide) (ht _ mF_Search_23) (fun _ h9 => h9) rfl d_Search_goOn_30 ?_
    refine lv_aload_n hx hb d_Search_goOn_33 rfl (lv_at hl 0 rfl) ?_
    refine va_get (D := D) (ci := 3) (v := .ref (ad 2)) (C := R_Search) (T := T_Search) (N := 5) hx hb ht i_Search hown hK hP 3 Xa_3 rfl 1 (by decide) (ht _ mF_Search_15) (fun _ h9 => h9) rfl d_Search_goOn_34 ?_
    refine va_get (D := D) (ci := 2) (v := .int (S.1 2 1)) (C := R_Board) (T := T_Board) (N := 7) hx hb ht i_Board hown hK hP 2 Xa_2 rfl 1 (by decide) (ht _ mF_Search_58) (fun _ h9 => h9) rfl d_Search_goOn_37 ?_
    refine lv_iconst (v := 1) hx hb d_Search_goOn_40 (by decide) ?_
    refine lv_isub hx hb d_Search_goOn_41 ?_
    refine lv_icmp_ge (tgt := 63) hx hb d_Search_goOn_42 (by decide) (fun c2 => ?_) (fun c2 => ?_)
    · rw [if_pos c2] at hf
      refine lv_iconst (v := 0) hx hb d_Search_goOn_63 (by decide) ?_
      rw [← hQ]
      have hz : (0 : Int32) = 0 ∨ (0 : Int32) = 1 := Or.inl rfl
      exact W.zret (v := (0 : Int32)) hx hb hr (zb_n hz) (fun t ht hW => ⟨⟨(0 : Int32), S, rfl, ⟨hf.symm, hz⟩, by rw [ht]; exact hP, va_K.moved hW.alike hK⟩, hS.F ht⟩) hS.2.2 d_Search_goOn_64
    · rw [if_neg c2] at hf
      refine lv_aload_n hx hb d_Search_goOn_45 rfl (lv_at hl 0 rfl) ?_
      refine lv_dup hx hb d_Search_goOn_46 rfl ?_
      refine va_get (D := D) (ci := 3) (v := .int (S.1 3 3)) (C := R_Search) (T := T_Search) (N := 5) hx hb ht i_Search hown hK hP 3 Xa_3 rfl 3 (by decide) (ht _ mF_Search_23) (fun _ h9 => h9) rfl d_Search_goOn_47 ?_
      refine lv_iconst (v := 1) hx hb d_Search_goOn_50 (by decide) ?_
      refine lv_iadd hx hb d_Search_goOn_51 ?_
      refine va_put (D := D) (ci := 3) (v := .int ((S.1 3 3) + (1 : Int32))) (ty := .int) (C := R_Search) (T := T_Search) (N := 5) hx hb ht i_Search t_Search t_Search_ok n_Search hown hK hP (X_D hI hAd) hS 3 Xa_3 rfl 3 (by decide) (ht _ mF_Search_23) (fun _ h9 => h9) rfl (by decide +kernel) rfl rfl (Nat.le_of_ble_eq_true rfl) d_Search_goOn_52 (fun H locs hP _ hS => ?_)
      replace hP := X_putI (by decide) hP rfl
      refine lv_aload_n hx hb d_Search_goOn_55 rfl (lv_at hl 0 rfl) ?_
      refine lv_iconst (v := 0) hx hb d_Search_goOn_56 (by decide) ?_
      refine va_put (D := D) (ci := 3) (v := .int (0 : Int32)) (ty := .int) (C := R_Search) (T := T_Search) (N := 5) hx hb ht i_Search t_Search t_Search_ok n_Search hown hK hP (X_D hI hAd) hS 3 Xa_3 rfl 4 (by decide) (ht _ mF_Search_26) (fun _ h9 => h9) rfl (by decide +kernel) rfl rfl (Nat.le_of_ble_eq_true rfl) d_Search_goOn_57 (fun H locs hP _ hS => ?_)
      replace hP := X_putI (by decide) hP rfl
      refine lv_goto (tgt := 65) hx hb d_Search_goOn_60 (by decide) ?_
      refine lv_aload_n hx hb d_Search_goOn_65 rfl (lv_at hl 0 rfl) ?_
      refine va_get (D := D) (ci := 3) (v := .ref (ad 2)) (C := R_Search) (T := T_Search) (N := 5) hx hb ht i_Search hown hK hP 3 Xa_3 rfl 1 (by decide) (ht _ mF_Search_15) (fun _ h9 => h9) rfl d_Search_goOn_66 ?_
      refine va_get (D := D) (ci := 2) (v := .ref (ad 6)) (C := R_Board) (T := T_Board) (N := 7) hx hb ht i_Board hown hK hP 2 Xa_2 rfl 4 (by decide) (ht _ mF_Search_29) (fun _ h9 => h9) rfl d_Search_goOn_69 ?_
      refine lv_aload_n hx hb d_Search_goOn_72 rfl (lv_at hl 0 rfl) ?_
      refine va_get (D := D) (ci := 3) (v := .int ((S.1 3 3) + (1 : Int32))) (C := R_Search) (T := T_Search) (N := 5) hx hb ht i_Search hown hK hP 3 Xa_3 rfl 3 (by decide) (ht _ mF_Search_23) (fun _ h9 => h9) rfl d_Search_goOn_73 ?_
      by_cases b3 : oob ((S.1 3 3) + (1 : Int32)) 8
      · rw [if_pos b3] at hf; exact absurd hf.symm hs
      rw [if_neg b3] at hf
      refine gz_aald hx hb hK hP 6 2 Xa_6 rfl b3 d_Search_goOn_76 ?_
      rw [X_row b3]
      refine lv_aload_n hx hb d_Search_goOn_77 rfl (lv_at hl 0 rfl) ?_
      refine va_get (D := D) (ci := 3) (v := .int (0 : Int32)) (C := R_Search) (T := T_Search) (N := 5) hx hb ht i_Search hown hK hP 3 Xa_3 rfl 4 (by decide) (ht _ mF_Search_26) (fun _ h9 => h9) rfl d_Search_goOn_78 ?_
      refine lv_iconst (v := (-1)) hx hb d_Search_goOn_81 (by decide) ?_
      by_cases b4 : oob (0 : Int32) 6
      · rw [if_pos b4] at hf; exact absurd hf.symm hs
      rw [if_neg b4] at hf
      refine va_iast hx hb hK hP (X_D hI hAd) hS (10 + ((S.1 3 3) + (1 : Int32)).toNatClampNeg) 0 (X_rowat6 b3) rfl b4 d_Search_goOn_82 (fun H locs hP _ hS => ?_)
      replace hP := X_stI (X_rowlt6 b3) (X_rowcell6 b3) hP
      refine lv_iconst (v := 1) hx hb d_Search_goOn_83 (by decide) ?_
      rw [← hQ]
      have hz : (1 : Int32) = 0 ∨ (1 : Int32) = 1 := Or.inr rfl
      exact W.zret (v := (1 : Int32)) hx hb hr (zb_n hz) (fun t ht hW => ⟨⟨(1 : Int32), wI (wI (wI S 3 3 ((S.1 3 3) + (1 : Int32))) 3 4 (0 : Int32)) (10 + ((S.1 3 3) + (1 : Int32)).toNatClampNeg) (0 : Int32).toNatClampNeg (-1 : Int32), rfl, ⟨hf.symm, hz⟩, by rw [ht]; exact hP, va_K.moved hW.alike hK⟩, hS.F ht⟩) hS.2.2 d_Search_goOn_84
  · rw [if_neg c1] at hf
    refine lv_aload_n hx hb d_Search_goOn_16 rfl (lv_at hl 0 rfl) ?_
    refine lv_dup hx hb d_Search_goOn_17 rfl ?_
    refine va_get (D := D) (ci := 3) (v := .int (S.1 3 4)) (C := R_Search) (T := T_Search) (N := 5) hx hb ht i_Search hown hK hP 3 Xa_3 rfl 4 (by decide) (ht _ mF_Search_26) (fun _ h9 => h9) rfl d_Search_goOn_18 ?_
    refine lv_iconst (v := 1) hx hb d_Search_goOn_21 (by decide) ?_
    refine lv_iadd hx hb d_Search_goOn_22 ?_
    refine va_put (D := D) (ci := 3) (v := .int ((S.1 3 4) + (1 : Int32))) (ty := .int) (C := R_Search) (T := T_Search) (N := 5) hx hb ht i_Search t_Search t_Search_ok n_Search hown hK hP (X_D hI hAd) hS 3 Xa_3 rfl 4 (by decide) (ht _ mF_Search_26) (fun _ h9 => h9) rfl (by decide +kernel) rfl rfl (Nat.le_of_ble_eq_true rfl) d_Search_goOn_23 (fun H locs hP _ hS => ?_)
    replace hP := X_putI (by decide) hP rfl
    refine lv_goto (tgt := 65) hx hb d_Search_goOn_26 (by decide) ?_
    refine lv_aload_n hx hb d_Search_goOn_65 rfl (lv_at hl 0 rfl) ?_
    refine va_get (D := D) (ci := 3) (v := .ref (ad 2)) (C := R_Search) (T := T_Search) (N := 5) hx hb ht i_Search hown hK hP 3 Xa_3 rfl 1 (by decide) (ht _ mF_Search_15) (fun _ h9 => h9) rfl d_Search_goOn_66 ?_
    refine va_get (D := D) (ci := 2) (v := .ref (ad 6)) (C := R_Board) (T := T_Board) (N := 7) hx hb ht i_Board hown hK hP 2 Xa_2 rfl 4 (by decide) (ht _ mF_Search_29) (fun _ h9 => h9) rfl d_Search_goOn_69 ?_
    refine lv_aload_n hx hb d_Search_goOn_72 rfl (lv_at hl 0 rfl) ?_
    refine va_get (D := D) (ci := 3) (v := .int (S.1 3 3)) (C := R_Search) (T := T_Search) (N := 5) hx hb ht i_Search hown hK hP 3 Xa_3 rfl 3 (by decide) (ht _ mF_Search_23) (fun _ h9 => h9) rfl d_Search_goOn_73 ?_
    by_cases b5 : oob (S.1 3 3) 8
    · rw [if_pos b5] at hf; exact absurd hf.symm hs
    rw [if_neg b5] at hf
    refine gz_aald hx hb hK hP 6 2 Xa_6 rfl b5 d_Search_goOn_76 ?_
    rw [X_row b5]
    refine lv_aload_n hx hb d_Search_goOn_77 rfl (lv_at hl 0 rfl) ?_
    refine va_get (D := D) (ci := 3) (v := .int ((S.1 3 4) + (1 : Int32))) (C := R_Search) (T := T_Search) (N := 5) hx hb ht i_Search hown hK hP 3 Xa_3 rfl 4 (by decide) (ht _ mF_Search_26) (fun _ h9 => h9) rfl d_Search_goOn_78 ?_
    refine lv_iconst (v := (-1)) hx hb d_Search_goOn_81 (by decide) ?_
    by_cases b6 : oob ((S.1 3 4) + (1 : Int32)) 6
    · rw [if_pos b6] at hf; exact absurd hf.symm hs
    rw [if_neg b6] at hf
    refine va_iast hx hb hK hP (X_D hI hAd) hS (10 + (S.1 3 3).toNatClampNeg) 0 (X_rowat6 b5) rfl b6 d_Search_goOn_82 (fun H locs hP _ hS => ?_)
    replace hP := X_stI (X_rowlt6 b5) (X_rowcell6 b5) hP
    refine lv_iconst (v := 1) hx hb d_Search_goOn_83 (by decide) ?_
    rw [← hQ]
    have hz : (1 : Int32) = 0 ∨ (1 : Int32) = 1 := Or.inr rfl
    exact W.zret (v := (1 : Int32)) hx hb hr (zb_n hz) (fun t ht hW => ⟨⟨(1 : Int32), wI (wI S 3 4 ((S.1 3 4) + (1 : Int32))) (10 + (S.1 3 3).toNatClampNeg) ((S.1 3 4) + (1 : Int32)).toNatClampNeg (-1 : Int32), rfl, ⟨hf.symm, hz⟩, by rw [ht]; exact hP, va_K.moved hW.alike hK⟩, hS.F ht⟩) hS.2.2 d_Search_goOn_84
set_option maxHeartbeats 4000000 in
set_option maxRecDepth 100000 in
theorem c_Search_look (l : Launch) (D : va_G) (cA : Nat → ClassId) (ad : Nat → Nat) (hI : InjA ad) (sz : Nat) (a1 : Int32) (S : SS) (hs : f_Search_look a1 S ≠ none) : Met l y_Search_look w_Search_look ({ frames := 5, cells := 0, slots := 0, locals := 119 }) (va_Pc [.ref (ad 3), .int a1] (fun U => U.heap.size = sz ∧ va_P D vwCl (X cA ad S) U.heap ∧ va_K D vwCl (tysX cA) U)) (va_Qi (fun (r : Int32) (u : SS) => f_Search_look a1 S = some (r, u)) (fun (u : SS) t => va_P D vwCl (X cA ad u) t.heap ∧ va_K D vwCl (tysX cA) t) (AS ad sz)) 0 0 (AS ad sz) := by
  refine Met.ofW (cc := b_Search_look) (maxL := 2) (ret := (some .int)) (by decide) rfl ?_
  intro p e s m args below meth c s₁ B hml hv
  obtain ⟨rfl, hsz, hP, hK⟩ := hv
  have hx := B.exec
  have hb := B.bytes
  have hr := B.returns
  have hts := atoms_spec (ws := w_Search_look) B.pre
  have ht := fun w h => hts w (List.mem_cons_of_mem _ h)
  have hown : s.vm.findClass R_Search = some m.cls := findClass_of_methodNamed B.named
  have hlocks := B.notSynchronized
  subst hsz
  have hAd : ∀ q, q < NP → AS ad s.heap.size (ad q) := fun q h => Or.inl ⟨q, h, rfl⟩
  have hA : ∀ q : Nat, s.heap.size ≤ q → AS ad s.heap.size q := fun q h => Or.inr h
  have hAS : ∀ z : Nat, s.heap.size ≤ z → ∀ q : Nat, AS ad z q → AS ad s.heap.size q := fun z h q hq => hq.elim Or.inl (fun g => Or.inr (Nat.le_trans h g))
  generalize hAe : AS ad s.heap.size = A at hAd hA hAS ⊢
  have hS : va_S A s.heap s.heap [] := va_S.rf
  have hl := lv_entry ([.ref (ad 3), .int a1]) (n := 2) (Nat.le_of_ble_eq_true rfl)
  rw [lg_entry_eq]
  generalize (lg_sl ([.ref (ad 3), .int a1]) ++ List.replicate (2 - (lg_sl ([.ref (ad 3), .int a1])).length) Slot.unset).toArray = ls at hl ⊢
  have hl : lv_has ls 2 [(0, .ref (ad 3)), (1, .int a1)] := hl
  have hf := (f_Search_look_s a1 S).symm
  generalize hQ : MQ below _ _ s _ _ _ = Q
  refine lv_aload_n hx hb d_Search_look_0 rfl (lv_at hl 0 rfl) ?_
  refine lv_iconst (v := 0) hx hb d_Search_look_1 (by decide) ?_
  refine va_put (D := D) (ci := 3) (v := .int (0 : Int32)) (ty := .int) (C := R_Search) (T := T_Search) (N := 5) hx hb ht i_Search t_Search t_Search_ok n_Search hown hK hP (X_D hI hAd) hS 3 Xa_3 rfl 2 (by decide) (ht _ mF_Search_19) (fun _ h9 => h9) rfl (by decide +kernel) rfl rfl (Nat.le_of_ble_eq_true rfl) d_Search_look_2 (fun H locs hP _ hS => ?_)
  replace hP := X_putI (by decide) hP rfl
  refine lv_aload_n hx hb d_Search_look_5 rfl (lv_at hl 0 rfl) ?_
  refine lv_iconst (v := 0) hx hb d_Search_look_6 (by decide) ?_
  refine va_put (D := D) (ci := 3) (v := .int (0 : Int32)) (ty := .int) (C := R_Search) (T := T_Search) (N := 5) hx hb ht i_Search t_Search t_Search_ok n_Search hown hK hP (X_D hI hAd) hS 3 Xa_3 rfl 3 (by decide) (ht _ mF_Search_23) (fun _ h9 => h9) rfl (by decide +kernel) rfl rfl (Nat.le_of_ble_eq_true rfl) d_Search_look_7 (fun H locs hP _ hS => ?_)
  replace hP := X_putI (by decide) hP rfl
  refine lv_aload_n hx hb d_Search_look_10 rfl (lv_at hl 0 rfl) ?_
  refine lv_iconst (v := 0) hx hb d_Search_look_11 (by decide) ?_
  refine va_put (D := D) (ci := 3) (v := .int (0 : Int32)) (ty := .int) (C := R_Search) (T := T_Search) (N := 5) hx hb ht i_Search t_Search t_Search_ok n_Search hown hK hP (X_D hI hAd) hS 3 Xa_3 rfl 4 (by decide) (ht _ mF_Search_26) (fun _ h9 => h9) rfl (by decide +kernel) rfl rfl (Nat.le_of_ble_eq_true rfl) d_Search_look_12 (fun H locs hP _ hS => ?_)
  replace hP := X_putI (by decide) hP rfl
  refine lv_aload_n hx hb d_Search_look_15 rfl (lv_at hl 0 rfl) ?_
  refine va_get (D := D) (ci := 3) (v := .ref (ad 2)) (C := R_Search) (T := T_Search) (N := 5) hx hb ht i_Search hown hK hP 3 Xa_3 rfl 1 (by decide) (ht _ mF_Search_15) (fun _ h9 => h9) rfl d_Search_look_16 ?_
  refine va_get (D := D) (ci := 2) (v := .ref (ad 6)) (C := R_Board) (T := T_Board) (N := 7) hx hb ht i_Board hown hK hP 2 Xa_2 rfl 4 (by decide) (ht _ mF_Search_29) (fun _ h9 => h9) rfl d_Search_look_19 ?_
  refine lv_aload_n hx hb d_Search_look_22 rfl (lv_at hl 0 rfl) ?_
  refine va_get (D := D) (ci := 3) (v := .int (0 : Int32)) (C := R_Search) (T := T_Search) (N := 5) hx hb ht i_Search hown hK hP 3 Xa_3 rfl 3 (by decide) (ht _ mF_Search_23) (fun _ h9 => h9) rfl d_Search_look_23 ?_
  by_cases b1 : oob (0 : Int32) 8
  · rw [if_pos b1] at hf; exact absurd hf.symm hs
  rw [if_neg b1] at hf
  refine gz_aald hx hb hK hP 6 2 Xa_6 rfl b1 d_Search_look_26 ?_
  rw [X_row b1]
  refine lv_aload_n hx hb d_Search_look_27 rfl (lv_at hl 0 rfl) ?_
  refine va_get (D := D) (ci := 3) (v := .int (0 : Int32)) (C := R_Search) (T := T_Search) (N := 5) hx hb ht i_Search hown hK hP 3 Xa_3 rfl 4 (by decide) (ht _ mF_Search_26) (fun _ h9 => h9) rfl d_Search_look_28 ?_
  refine lv_iconst (v := (-1)) hx hb d_Search_look_31 (by decide) ?_
  by_cases b2 : oob (0 : Int32) 6
  · rw [if_pos b2] at hf; exact absurd hf.symm hs
  rw [if_neg b2] at hf
  refine va_iast hx hb hK hP (X_D hI hAd) hS (10 + (0 : Int32).toNatClampNeg) 0 (X_rowat6 b1) rfl b2 d_Search_look_32 (fun H locs hP _ hS => ?_)
  replace hP := X_stI (X_rowlt6 b1) (X_rowcell6 b1) hP
  have lp33_1 : ∀ (n : Nat) (Sx : SS) (H : Heap) (locs : List Loc) (ls : Array Slot), va_P D vwCl (X cA ad Sx) H → va_S A s.heap H locs → lv_has ls 2 [(0, .ref (ad 3)), (1, .int a1)] → f_Search_look_L33 a1 n Sx ≠ none →
      (∀ o : Int32 × SS, f_Search_look_L33 a1 n Sx = some (.inl o) → f_Search_look a1 S = some o) →
      (∀ v : SS, f_Search_look_L33 a1 n Sx = some (.inr v) → ∀ (H : Heap) (locs : List Loc) (ls : Array Slot), va_P D vwCl (X cA ad v) H → va_S A s.heap H locs → lv_has ls 2 [(0, .ref (ad 3)), (1, .int a1)] → W p l e (headSpec w_Search_look ({ frames := 5, cells := 0, slots := 0, locals := 119 })).room s m ([.ref (ad 3), .int a1] : List Value).toArray below meth c H locs 0 0 Q (F0 m 97 ls [])) →
      W p l e (headSpec w_Search_look ({ frames := 5, cells := 0, slots := 0, locals := 119 })).room s m ([.ref (ad 3), .int a1] : List Value).toArray below meth c H locs 0 0 Q (F0 m 33 ls []) := by
    intro n
    induction n with
    | zero => intro Sx H locs ls hP hS hl hs; exact absurd rfl hs
    | succ n ih =>
      intro Sx H locs ls hP hS hl hs hret hexit
      have hf := (f_Search_look_L33_s a1 n Sx).symm
      refine lv_aload_n hx hb d_Search_look_33 rfl (lv_at hl 0 rfl) ?_
      refine va_get (D := D) (ci := 3) (v := .int (Sx.1 3 2)) (C := R_Search) (T := T_Search) (N := 5) hx hb ht i_Search hown hK hP 3 Xa_3 rfl 2 (by decide) (ht _ mF_Search_19) (fun _ h9 => h9) rfl d_Search_look_34 ?_
      refine lv_iload_n hx hb d_Search_look_37 rfl (lv_at hl 1 rfl) ?_
      refine lv_icmp_ge (tgt := 97) hx hb d_Search_look_38 (by decide) (fun c3 => ?_) (fun c3 => ?_)
      · rw [if_pos c3] at hf
        exact hexit _ hf.symm _ _ _ hP hS (lv_sub hl [0, 1] rfl)
      · rw [if_neg c3] at hf
        refine lv_aload_n hx hb d_Search_look_41 rfl (lv_at hl 0 rfl) ?_
        refine lv_dup hx hb d_Search_look_42 rfl ?_
        refine va_get (D := D) (ci := 3) (v := .int (Sx.1 3 2)) (C := R_Search) (T := T_Search) (N := 5) hx hb ht i_Search hown hK hP 3 Xa_3 rfl 2 (by decide) (ht _ mF_Search_19) (fun _ h9 => h9) rfl d_Search_look_43 ?_
        refine lv_iconst (v := 1) hx hb d_Search_look_46 (by decide) ?_
        refine lv_iadd hx hb d_Search_look_47 ?_
        refine va_put (D := D) (ci := 3) (v := .int ((Sx.1 3 2) + (1 : Int32))) (ty := .int) (C := R_Search) (T := T_Search) (N := 5) hx hb ht i_Search t_Search t_Search_ok n_Search hown hK hP (X_D hI hAd) hS 3 Xa_3 rfl 2 (by decide) (ht _ mF_Search_19) (fun _ h9 => h9) rfl (by decide +kernel) rfl rfl (Nat.le_of_ble_eq_true rfl) d_Search_look_48 (fun H locs hP _ hS => ?_)
        replace hP := X_putI (by decide) hP rfl
        refine lv_aload_n hx hb d_Search_look_51 rfl (lv_at hl 0 rfl) ?_
        refine va_get (D := D) (ci := 3) (v := .ref (ad 2)) (C := R_Search) (T := T_Search) (N := 5) hx hb ht i_Search hown hK hP 3 Xa_3 rfl 1 (by decide) (ht _ mF_Search_15) (fun _ h9 => h9) rfl d_Search_look_52 ?_
        refine va_get (D := D) (ci := 2) (v := .ref (ad 6)) (C := R_Board) (T := T_Board) (N := 7) hx hb ht i_Board hown hK hP 2 Xa_2 rfl 4 (by decide) (ht _ mF_Search_29) (fun _ h9 => h9) rfl d_Search_look_55 ?_
        refine lv_aload_n hx hb d_Search_look_58 rfl (lv_at hl 0 rfl) ?_
        refine va_get (D := D) (ci := 3) (v := .int (Sx.1 3 3)) (C := R_Search) (T := T_Search) (N := 5) hx hb ht i_Search hown hK hP 3 Xa_3 rfl 3 (by decide) (ht _ mF_Search_23) (fun _ h9 => h9) rfl d_Search_look_59 ?_
        by_cases b4 : oob (Sx.1 3 3) 8
        · rw [if_pos b4] at hf; exact absurd hf.symm hs
        rw [if_neg b4] at hf
        refine gz_aald hx hb hK hP 6 2 Xa_6 rfl b4 d_Search_look_62 ?_
        rw [X_row b4]
        refine lv_aload_n hx hb d_Search_look_63 rfl (lv_at hl 0 rfl) ?_
        refine va_get (D := D) (ci := 3) (v := .int (Sx.1 3 4)) (C := R_Search) (T := T_Search) (N := 5) hx hb ht i_Search hown hK hP 3 Xa_3 rfl 4 (by decide) (ht _ mF_Search_26) (fun _ h9 => h9) rfl d_Search_look_64 ?_
        refine lv_dup2_11 hx hb d_Search_look_67 rfl rfl ?_
        by_cases b5 : oob (Sx.1 3 4) 6
        · rw [if_pos b5] at hf; exact absurd hf.symm hs
        rw [if_neg b5] at hf
        refine va_iald (f := (wI Sx 3 2 ((Sx.1 3 2) + (1 : Int32))).1 (10 + (Sx.1 3 3).toNatClampNeg)) hx hb hK hP (10 + (Sx.1 3 3).toNatClampNeg) 0 (X_rowat6 b4) rfl b5 d_Search_look_68 ?_
        refine lv_iconst (v := 1) hx hb d_Search_look_69 (by decide) ?_
        refine lv_iadd hx hb d_Search_look_70 ?_
        refine va_iast hx hb hK hP (X_D hI hAd) hS (10 + (Sx.1 3 3).toNatClampNeg) 0 (X_rowat6 b4) rfl b5 d_Search_look_71 (fun H locs hP _ hS => ?_)
        replace hP := X_stI (X_rowlt6 b4) (X_rowcell6 b4) hP
        refine lv_aload_n hx hb d_Search_look_72 rfl (lv_at hl 0 rfl) ?_
        refine va_calli (va_runV (As := []) (rest := []) ⟨hx, hb, hml, hown, ht⟩ (c_Search_stands l D cA ad hI H.size (wI (wI Sx 3 2 ((Sx.1 3 2) + (1 : Int32))) (10 + (Sx.1 3 3).toNatClampNeg) (Sx.1 3 4).toNatClampNeg (((wI Sx 3 2 ((Sx.1 3 2) + (1 : Int32))).1 (10 + (Sx.1 3 3).toNatClampNeg) (Sx.1 3 4).toNatClampNeg) + (1 : Int32))) (fun hn => hs (by rw [hn] at hf; exact hf.symm))) (cwV 0 ht (good_G (gV mM_Search_35 mI_Search_stands mV_Search_stands mN_Search mk_Search_stands)) rfl rfl rfl (by decide +kernel) ⟨Nat.le_of_ble_eq_true rfl, Nat.le_of_ble_eq_true rfl⟩) ⟨fun a U g mk q => ⟨q.1, q.2.1, q.2.2.1, va_K.moved (u := U) (U := U.calling g mk a) (Vm.Alike.refl U.vm) q.2.2.2⟩, va_recv hK hP (ci := 3) (q0 := 3) rfl Xa_3, fun U hU hW => ⟨rfl, by rw [hU], by rw [hU]; exact hP, va_K.moved hW.alike hK⟩⟩ rfl rfl hl.1 rfl (lv_room (Nat.le_of_ble_eq_true rfl)) d_Search_look_73 ⟨Nat.le_of_ble_eq_true rfl, Nat.le_of_ble_eq_true rfl⟩) hS (fun q _ h => hAS _ hS.1 q h) (fun q h => hAS _ hS.1 q h) (fun r1 u1 t H locs ht9 hvm hw hB hz1 hk1 hS => ?_)
        obtain ⟨hP, hK9⟩ := hB
        rw [ht9] at hP
        obtain ⟨hw, hz1⟩ := hw
        rw [hw, Option.bind_some] at hf
        dsimp only at hf
        refine lv_if_ne (tgt := 88) hx hb d_Search_look_76 (by decide) (fun c6 => ?_) (fun c6 => ?_)
        · rw [if_neg c6] at hf
          refine lv_aload_n hx hb d_Search_look_88 rfl (lv_at hl 0 rfl) ?_
          refine va_calli (va_runV (As := []) (rest := []) ⟨hx, hb, hml, hown, ht⟩ (c_Search_goOn l D cA ad hI H.size u1 (fun hn => hs (by rw [hn] at hf; exact hf.symm))) (cwV 0 ht (good_G (gV mM_Search_42 mI_Search_goOn mV_Search_goOn mN_Search mk_Search_goOn)) rfl rfl rfl (by decide +kernel) ⟨Nat.le_of_ble_eq_true rfl, Nat.le_of_ble_eq_true rfl⟩) ⟨fun a U g mk q => ⟨q.1, q.2.1, q.2.2.1, va_K.moved (u := U) (U := U.calling g mk a) (Vm.Alike.refl U.vm) q.2.2.2⟩, va_recv hK hP (ci := 3) (q0 := 3) rfl Xa_3, fun U hU hW => ⟨rfl, by rw [hU], by rw [hU]; exact hP, va_K.moved hW.alike hK⟩⟩ rfl rfl hl.1 rfl (lv_room (Nat.le_of_ble_eq_true rfl)) d_Search_look_89 ⟨Nat.le_of_ble_eq_true rfl, Nat.le_of_ble_eq_true rfl⟩) hS (fun q _ h => hAS _ hS.1 q h) (fun q h => hAS _ hS.1 q h) (fun r2 u2 t H locs ht9 hvm hw hB hz1 hk1 hS => ?_)
          obtain ⟨hP, hK9⟩ := hB
          rw [ht9] at hP
          obtain ⟨hw, hz2⟩ := hw
          rw [hw, Option.bind_some] at hf
          dsimp only at hf
          refine lv_if_ne (tgt := 33) hx hb d_Search_look_92 (by decide) (fun c7 => ?_) (fun c7 => ?_)
          · rw [if_neg c7] at hf
            exact ih u2 _ _ _ hP hS (lv_sub hl [0, 1] rfl) (fun hn => hs (hf.symm.trans hn)) (fun o ho => hret o (hf.symm.trans ho)) (fun v ho => hexit v (hf.symm.trans ho))
          · rw [if_pos c7] at hf
            refine lv_iconst (v := 1) hx hb d_Search_look_95 (by decide) ?_
            rw [← hQ]
            exact W.iret (v := (1 : Int32)) hx hb hr (fun t ht hW => ⟨⟨(1 : Int32), u2, rfl, hret _ hf.symm, by rw [ht]; exact hP, va_K.moved hW.alike hK⟩, hS.F ht⟩) hS.2.2 d_Search_look_96
        · rw [if_pos c6] at hf
          refine lv_aload_n hx hb d_Search_look_79 rfl (lv_at hl 0 rfl) ?_
          refine va_calli (va_runV (As := []) (rest := []) ⟨hx, hb, hml, hown, ht⟩ (c_Search_goBack l D cA ad hI H.size u1 (fun hn => hs (by rw [hn] at hf; exact hf.symm))) (cwV 0 ht (good_G (gV mM_Search_39 mI_Search_goBack mV_Search_goBack mN_Search mk_Search_goBack)) rfl rfl rfl (by decide +kernel) ⟨Nat.le_of_ble_eq_true rfl, Nat.le_of_ble_eq_true rfl⟩) ⟨fun a U g mk q => ⟨q.1, q.2.1, q.2.2.1, va_K.moved (u := U) (U := U.calling g mk a) (Vm.Alike.refl U.vm) q.2.2.2⟩, va_recv hK hP (ci := 3) (q0 := 3) rfl Xa_3, fun U hU hW => ⟨rfl, by rw [hU], by rw [hU]; exact hP, va_K.moved hW.alike hK⟩⟩ rfl rfl hl.1 rfl (lv_room (Nat.le_of_ble_eq_true rfl)) d_Search_look_80 ⟨Nat.le_of_ble_eq_true rfl, Nat.le_of_ble_eq_true rfl⟩) hS (fun q _ h => hAS _ hS.1 q h) (fun q h => hAS _ hS.1 q h) (fun r3 u3 t H locs ht9 hvm hw hB hz1 hk1 hS => ?_)
          obtain ⟨hP, hK9⟩ := hB
          rw [ht9] at hP
          obtain ⟨hw, hz3⟩ := hw
          rw [hw, Option.bind_some] at hf
          dsimp only at hf
          refine lv_if_ne (tgt := 33) hx hb d_Search_look_83 (by decide) (fun c8 => ?_) (fun c8 => ?_)
          · rw [if_neg c8] at hf
            exact ih u3 _ _ _ hP hS (lv_sub hl [0, 1] rfl) (fun hn => hs (hf.symm.trans hn)) (fun o ho => hret o (hf.symm.trans ho)) (fun v ho => hexit v (hf.symm.trans ho))
          · rw [if_pos c8] at hf
            refine lv_iconst (v := 0) hx hb d_Search_look_86 (by decide) ?_
            rw [← hQ]
            exact W.iret (v := (0 : Int32)) hx hb hr (fun t ht hW => ⟨⟨(0 : Int32), u3, rfl, hret _ hf.symm, by rw [ht]; exact hP, va_K.moved hW.alike hK⟩, hS.F ht⟩) hS.2.2 d_Search_look_87
  refine lp33_1 FU (wI (wI (wI (wI S 3 2 (0 : Int32)) 3 3 (0 : Int32)) 3 4 (0 : Int32)) (10 + (0 : Int32).toNatClampNeg) (0 : Int32).toNatClampNeg (-1 : Int32)) _ _ _ hP hS (lv_sub hl [0, 1] rfl) (fun hn => ?_) (fun o ho => ?_) (fun v9 hvv9 H locs ls hP hS hl => ?_)
  · rw [hn] at hf; exact hs hf.symm
  · rw [ho, Option.bind_some, Sum.elim_inl] at hf; exact hf.symm
  · rw [hvv9, Option.bind_some, Sum.elim_inr] at hf
    refine lv_iconst (v := 2) hx hb d_Search_look_97 (by decide) ?_
    rw [← hQ]
    exact W.iret (v := (2 : Int32)) hx hb hr (fun t ht hW => ⟨⟨(2 : Int32), v9, rfl, hf.symm, by rw [ht]; exact hP, va_K.moved hW.alike hK⟩, hS.F ht⟩) hS.2.2 d_Search_look_98
