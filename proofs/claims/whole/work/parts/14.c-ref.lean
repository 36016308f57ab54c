set_option maxHeartbeats 4000000 in
set_option maxRecDepth 100000 in
theorem c_RM_thrown (l : Launch) (D : va_G) (cA : Nat → ClassId) (ad : Nat → Nat) (hI : InjA ad) (sz : Nat) (S : SS) (hs : f_RM_thrown S ≠ none) : Met l y_RM_thrown w_RM_thrown ({ frames := 0, cells := 0, slots := 0, locals := 0 }) (va_Pc [.ref (ad 33)] (fun U => U.heap.size = sz ∧ va_P D vwCl (X cA ad S) U.heap ∧ va_K D vwCl (tysX cA) U)) (va_Qi (fun (r : Int32) (_ : Unit) => f_RM_thrown S = some r) (fun (_ : Unit) t => va_P D vwCl (X cA ad S) t.heap ∧ va_K D vwCl (tysX cA) t) (AS ad sz)) 0 0 (AS ad sz) := by
  refine Met.ofW (cc := b_RM_thrown) (maxL := 1) (ret := (some .int)) (by decide) rfl ?_
  intro p e s m args below meth c s₁ B hml hv
  obtain ⟨rfl, hsz, hP, hK⟩ := hv
  have hx := B.exec
  have hb := B.bytes
  have hr := B.returns
  have hts := atoms_spec (ws := w_RM_thrown) B.pre
  have ht := fun w h => hts w (List.mem_cons_of_mem _ h)
  have hown : s.vm.findClass R_RM = some m.cls := findClass_of_methodNamed B.named
  have hlocks := B.notSynchronized
  subst hsz
  have hAd : ∀ q, q < NP → AS ad s.heap.size (ad q) := fun q h => Or.inl ⟨q, h, rfl⟩
  have hA : ∀ q : Nat, s.heap.size ≤ q → AS ad s.heap.size q := fun q h => Or.inr h
  have hAS : ∀ z : Nat, s.heap.size ≤ z → ∀ q : Nat, AS ad z q → AS ad s.heap.size q := fun z h q hq => hq.elim Or.inl (fun g => Or.inr (Nat.le_trans h g))
  generalize hAe : AS ad s.heap.size = A at hAd hA hAS ⊢
  have hS : va_S A s.heap s.heap [] := va_S.rf
  have hl := lv_entry ([.ref (ad 33)]) (n := 1) (Nat.le_of_ble_eq_true rfl)
  rw [lg_entry_eq]
  generalize (lg_sl ([.ref (ad 33)]) ++ List.replicate (1 - (lg_sl ([.ref (ad 33)])).length) Slot.unset).toArray = ls at hl ⊢
  have hl : lv_has ls 1 [(0, .ref (ad 33))] := hl
  have hf := (f_RM_thrown_s S).symm
  generalize hQ : MQ below _ _ s _ _ _ = Q
  refine lv_aload_n hx hb d_RM_thrown_0 rfl (lv_at hl 0 rfl) ?_
  refine va_get (D := D) (ci := 5) (v := .int (S.1 33 0)) (C := R_RM) (T := T_RM) (N := 13) hx hb ht i_RM hown hK hP 33 Xa_33 rfl 0 (by decide) (ht _ mF_RM_36) (fun _ h9 => h9) rfl d_RM_thrown_1 ?_
  rw [← hQ]
  exact W.iret (v := S.1 33 0) hx hb hr (fun t ht hW => ⟨⟨S.1 33 0, (), rfl, hf.symm, by rw [ht]; exact hP, va_K.moved hW.alike hK⟩, hS.F ht⟩) hS.2.2 d_RM_thrown_4
set_option maxHeartbeats 4000000 in
set_option maxRecDepth 100000 in
theorem c_RM_key (l : Launch) (D : va_G) (cA : Nat → ClassId) (ad : Nat → Nat) (hI : InjA ad) (sz : Nat) (S : SS) (hs : f_RM_key S ≠ none) : Met l y_RM_key w_RM_key ({ frames := 0, cells := 0, slots := 0, locals := 0 }) (va_Pc [.ref (ad 33)] (fun U => U.heap.size = sz ∧ va_P D vwCl (X cA ad S) U.heap ∧ va_K D vwCl (tysX cA) U)) (va_Qi (fun (r : Int32) (u : SS) => f_RM_key S = some (r, u)) (fun (u : SS) t => va_P D vwCl (X cA ad u) t.heap ∧ va_K D vwCl (tysX cA) t) (AS ad sz)) 0 0 (AS ad sz) := by
  refine Met.ofW (cc := b_RM_key) (maxL := 2) (ret := (some .int)) (by decide) rfl ?_
  intro p e s m args below meth c s₁ B hml hv
  obtain ⟨rfl, hsz, hP, hK⟩ := hv
  have hx := B.exec
  have hb := B.bytes
  have hr := B.returns
  have hts := atoms_spec (ws := w_RM_key) B.pre
  have ht := fun w h => hts w (List.mem_cons_of_mem _ h)
  have hown : s.vm.findClass R_RM = some m.cls := findClass_of_methodNamed B.named
  have hlocks := B.notSynchronized
  subst hsz
  have hAd : ∀ q, q < NP → AS ad s.heap.size (ad q) := fun q h => Or.inl ⟨q, h, rfl⟩
  have hA : ∀ q : Nat, s.heap.size ≤ q → AS ad s.heap.size q := fun q h => Or.inr h
  have hAS : ∀ z : Nat, s.heap.size ≤ z → ∀ q : Nat, AS ad z q → AS ad s.heap.size q := fun z h q hq => hq.elim Or.inl (fun g => Or.inr (Nat.le_trans h g))
  generalize hAe : AS ad s.heap.size = A at hAd hA hAS ⊢
  have hS : va_S A s.heap s.heap [] := va_S.rf
  have hl := lv_entry ([.ref (ad 33)]) (n := 2) (Nat.le_of_ble_eq_true rfl)
  rw [lg_entry_eq]
  generalize (lg_sl ([.ref (ad 33)]) ++ List.replicate (2 - (lg_sl ([.ref (ad 33)])).length) Slot.unset).toArray = ls at hl ⊢
  have hl : lv_has ls 2 [(0, .ref (ad 33))] := hl
  have hf := (f_RM_key_s S).symm
  generalize hQ : MQ below _ _ s _ _ _ = Q
  refine lv_aload_n hx hb d_RM_key_0 rfl (lv_at hl 0 rfl) ?_
  refine lv_aload_n hx hb d_RM_key_1 rfl (lv_at hl 0 rfl) ?_
  refine va_get (D := D) (ci := 5) (v := .int (S.1 33 3)) (C := R_RM) (T := T_RM) (N := 13) hx hb ht i_RM hown hK hP 33 Xa_33 rfl 3 (by decide) (ht _ mF_RM_39) (fun _ h9 => h9) rfl d_RM_key_2 ?_
  refine lv_bipush (v := 8) hx hb d_RM_key_5 (by decide) ?_
  refine lv_icmp_ne (tgt := 14) hx hb d_RM_key_7 (by decide) (fun c1 => ?_) (fun c1 => ?_)
  · rw [if_neg c1] at hf
    refine lv_iconst (v := 0) hx hb d_RM_key_14 (by decide) ?_
    refine va_put (D := D) (ci := 5) (v := .int (0 : Int32)) (ty := .int) (C := R_RM) (T := T_RM) (N := 13) hx hb ht i_RM t_RM t_RM_ok n_RM hown hK hP (X_D hI hAd) hS 33 Xa_33 rfl 0 (by decide) (ht _ mF_RM_36) (fun _ h9 => h9) rfl (by decide +kernel) rfl rfl (Nat.le_of_ble_eq_true rfl) d_RM_key_15 (fun H locs hP _ hS => ?_)
    replace hP := X_putI (by decide) hP rfl
    refine lv_aload_n hx hb d_RM_key_18 rfl (lv_at hl 0 rfl) ?_
    refine va_get (D := D) (ci := 5) (v := .int (0 : Int32)) (C := R_RM) (T := T_RM) (N := 13) hx hb ht i_RM hown hK hP 33 Xa_33 rfl 0 (by decide) (ht _ mF_RM_36) (fun _ h9 => h9) rfl d_RM_key_19 ?_
    refine lv_if_le (tgt := 27) hx hb d_RM_key_22 (by decide) (fun c2 => ?_) (fun c2 => absurd c2 (by decide))
    refine lv_iconst (v := 0) hx hb d_RM_key_27 (by decide) ?_
    refine lv_istore_n (lv' := [(1, .int (0 : Int32)), (0, .ref (ad 33))]) hx hb d_RM_key_28 rfl hl (by decide) rfl (fun ls hl => ?_)
    have lp29_1 : ∀ (n : Nat) (x1_1 : Int32) (Sx : SS) (H : Heap) (locs : List Loc) (ls : Array Slot), va_P D vwCl (X cA ad Sx) H → va_S A s.heap H locs → lv_has ls 2 [(0, .ref (ad 33)), (1, .int x1_1)] → f_RM_key_L29 n x1_1 Sx ≠ none →
        (∀ v : SS, f_RM_key_L29 n x1_1 Sx = some v → ∀ (H : Heap) (locs : List Loc) (ls : Array Slot), va_P D vwCl (X cA ad v) H → va_S A s.heap H locs → lv_has ls 2 [(0, .ref (ad 33))] → W p l e (headSpec w_RM_key ({ frames := 0, cells := 0, slots := 0, locals := 0 })).room s m ([.ref (ad 33)] : List Value).toArray below meth c H locs 0 0 Q (F0 m 56 ls [])) →
        W p l e (headSpec w_RM_key ({ frames := 0, cells := 0, slots := 0, locals := 0 })).room s m ([.ref (ad 33)] : List Value).toArray below meth c H locs 0 0 Q (F0 m 29 ls []) := by
      intro n
      induction n with
      | zero => intro x1_1 Sx H locs ls hP hS hl hs; exact absurd rfl hs
      | succ n ih =>
        intro x1_1 Sx H locs ls hP hS hl hs hexit
        have hf := (f_RM_key_L29_s n x1_1 Sx).symm
        refine lv_iload_n hx hb d_RM_key_29 rfl (lv_at hl 1 rfl) ?_
        refine lv_bipush (v := 6) hx hb d_RM_key_30 (by decide) ?_
        refine lv_icmp_ge (tgt := 56) hx hb d_RM_key_32 (by decide) (fun c3 => ?_) (fun c3 => ?_)
        · rw [if_pos c3] at hf
          exact hexit _ hf.symm _ _ _ hP hS (lv_sub hl [0] rfl)
        · rw [if_neg c3] at hf
          refine lv_aload_n hx hb d_RM_key_35 rfl (lv_at hl 0 rfl) ?_
          refine va_get (D := D) (ci := 5) (v := .ref (ad 34)) (C := R_RM) (T := T_RM) (N := 13) hx hb ht i_RM hown hK hP 33 Xa_33 rfl 5 (by decide) (ht _ mF_RM_7) (fun _ h9 => h9) rfl d_RM_key_36 ?_
          refine lv_bipush (v := 6) hx hb d_RM_key_39 (by decide) ?_
          refine lv_aload_n hx hb d_RM_key_41 rfl (lv_at hl 0 rfl) ?_
          refine va_get (D := D) (ci := 5) (v := .int (Sx.1 33 3)) (C := R_RM) (T := T_RM) (N := 13) hx hb ht i_RM hown hK hP 33 Xa_33 rfl 3 (by decide) (ht _ mF_RM_39) (fun _ h9 => h9) rfl d_RM_key_42 ?_
          refine lv_imul hx hb d_RM_key_45 ?_
          refine lv_iload_n hx hb d_RM_key_46 rfl (lv_at hl 1 rfl) ?_
          refine lv_iadd hx hb d_RM_key_47 ?_
          refine lv_iconst (v := 0) hx hb d_RM_key_48 (by decide) ?_
          by_cases b4 : oob (((6 : Int32) * (Sx.1 33 3)) + x1_1) 48
          · rw [if_pos b4] at hf; exact absurd hf.symm hs
          rw [if_neg b4] at hf
          refine va_zast hx hb hK hP (X_D hI hAd) hS 34 4 Xa_34 rfl b4 d_RM_key_49 (fun H locs hP _ hS => ?_)
          replace hP := X_stI (by decide) Xc_34 hP
          refine lv_iinc (v := x1_1 + 1) (lv' := [(1, .int (x1_1 + 1)), (0, .ref (ad 33))]) hx hb d_RM_key_50 hl (k := 1) rfl rfl (by decide) rfl (fun ls hl => ?_)
          refine lv_goto (tgt := 29) hx hb d_RM_key_53 (by decide) ?_
          exact ih (x1_1 + 1) (wI Sx 34 (((6 : Int32) * (Sx.1 33 3)) + x1_1).toNatClampNeg (vp_nar .boolean (0 : Int32))) _ _ _ hP hS (lv_sub hl [1, 0] rfl) (fun hn => hs (hf.symm.trans hn)) (fun v ho => hexit v (hf.symm.trans ho))
    refine lp29_1 FU (0 : Int32) (wI S 33 0 (0 : Int32)) _ _ _ hP hS (lv_sub hl [1, 0] rfl) (fun hn => ?_) (fun v5 hvv5 H locs ls hP hS hl => ?_)
    · rw [hn] at hf; exact hs hf.symm
    · rw [hvv5, Option.bind_some] at hf
      refine lv_aload_n hx hb d_RM_key_56 rfl (lv_at hl 0 rfl) ?_
      refine lv_dup hx hb d_RM_key_57 rfl ?_
      refine va_get (D := D) (ci := 5) (v := .int (v5.1 33 3)) (C := R_RM) (T := T_RM) (N := 13) hx hb ht i_RM hown hK hP 33 Xa_33 rfl 3 (by decide) (ht _ mF_RM_39) (fun _ h9 => h9) rfl d_RM_key_58 ?_
      refine lv_iconst (v := 1) hx hb d_RM_key_61 (by decide) ?_
      refine lv_iadd hx hb d_RM_key_62 ?_
      refine va_put (D := D) (ci := 5) (v := .int ((v5.1 33 3) + (1 : Int32))) (ty := .int) (C := R_RM) (T := T_RM) (N := 13) hx hb ht i_RM t_RM t_RM_ok n_RM hown hK hP (X_D hI hAd) hS 33 Xa_33 rfl 3 (by decide) (ht _ mF_RM_39) (fun _ h9 => h9) rfl (by decide +kernel) rfl rfl (Nat.le_of_ble_eq_true rfl) d_RM_key_63 (fun H locs hP _ hS => ?_)
      replace hP := X_putI (by decide) hP rfl
      refine lv_aload_n hx hb d_RM_key_66 rfl (lv_at hl 0 rfl) ?_
      refine lv_iconst (v := 0) hx hb d_RM_key_67 (by decide) ?_
      refine va_put (D := D) (ci := 5) (v := .int (0 : Int32)) (ty := .boolean) (C := R_RM) (T := T_RM) (N := 13) hx hb ht i_RM t_RM t_RM_ok n_RM hown hK hP (X_D hI hAd) hS 33 Xa_33 rfl 9 (by decide) (ht _ mF_RM_45) (fun _ h9 => h9) rfl (by decide +kernel) rfl rfl (Nat.le_of_ble_eq_true rfl) d_RM_key_68 (fun H locs hP _ hS => ?_)
      replace hP := X_putI (by decide) hP rfl
      refine lv_aload_n hx hb d_RM_key_71 rfl (lv_at hl 0 rfl) ?_
      refine va_get (D := D) (ci := 5) (v := .int ((v5.1 33 3) + (1 : Int32))) (C := R_RM) (T := T_RM) (N := 13) hx hb ht i_RM hown hK hP 33 Xa_33 rfl 3 (by decide) (ht _ mF_RM_39) (fun _ h9 => h9) rfl d_RM_key_72 ?_
      refine lv_iconst (v := 1) hx hb d_RM_key_75 (by decide) ?_
      refine lv_isub hx hb d_RM_key_76 ?_
      rw [← hQ]
      exact W.iret (v := ((v5.1 33 3) + (1 : Int32)) - (1 : Int32)) hx hb hr (fun t ht hW => ⟨⟨((v5.1 33 3) + (1 : Int32)) - (1 : Int32), wI (wI v5 33 3 ((v5.1 33 3) + (1 : Int32))) 33 9 (0 : Int32), rfl, hf.symm, by rw [ht]; exact hP, va_K.moved hW.alike hK⟩, hS.F ht⟩) hS.2.2 d_RM_key_77
  · rw [if_pos c1] at hf
    refine lv_iconst (v := 1) hx hb d_RM_key_10 (by decide) ?_
    refine lv_goto (tgt := 15) hx hb d_RM_key_11 (by decide) ?_
    refine va_put (D := D) (ci := 5) (v := .int (1 : Int32)) (ty := .int) (C := R_RM) (T := T_RM) (N := 13) hx hb ht i_RM t_RM t_RM_ok n_RM hown hK hP (X_D hI hAd) hS 33 Xa_33 rfl 0 (by decide) (ht _ mF_RM_36) (fun _ h9 => h9) rfl (by decide +kernel) rfl rfl (Nat.le_of_ble_eq_true rfl) d_RM_key_15 (fun H locs hP _ hS => ?_)
    replace hP := X_putI (by decide) hP rfl
    refine lv_aload_n hx hb d_RM_key_18 rfl (lv_at hl 0 rfl) ?_
    refine va_get (D := D) (ci := 5) (v := .int (1 : Int32)) (C := R_RM) (T := T_RM) (N := 13) hx hb ht i_RM hown hK hP 33 Xa_33 rfl 0 (by decide) (ht _ mF_RM_36) (fun _ h9 => h9) rfl d_RM_key_19 ?_
    refine lv_if_le (tgt := 27) hx hb d_RM_key_22 (by decide) (fun c6 => absurd c6 (by decide)) (fun c6 => ?_)
    refine lv_iconst (v := 0) hx hb d_RM_key_25 (by decide) ?_
    rw [← hQ]
    exact W.iret (v := (0 : Int32)) hx hb hr (fun t ht hW => ⟨⟨(0 : Int32), wI S 33 0 (1 : Int32), rfl, hf.symm, by rw [ht]; exact hP, va_K.moved hW.alike hK⟩, hS.F ht⟩) hS.2.2 d_RM_key_26
set_option maxHeartbeats 4000000 in
set_option maxRecDepth 100000 in
theorem c_RM_door (l : Launch) (D : va_G) (cA : Nat → ClassId) (ad : Nat → Nat) (hI : InjA ad) (sz : Nat) (S : SS) (hs : f_RM_door S ≠ none) : Met l y_RM_door w_RM_door ({ frames := 0, cells := 0, slots := 0, locals := 0 }) (va_Pc [.ref (ad 33)] (fun U => U.heap.size = sz ∧ va_P D vwCl (X cA ad S) U.heap ∧ va_K D vwCl (tysX cA) U)) (va_Qi (fun (r : Int32) (u : SS) => f_RM_door S = some (r, u)) (fun (u : SS) t => va_P D vwCl (X cA ad u) t.heap ∧ va_K D vwCl (tysX cA) t) (AS ad sz)) 0 0 (AS ad sz) := by
  refine Met.ofW (cc := b_RM_door) (maxL := 1) (ret := (some .int)) (by decide) rfl ?_
  intro p e s m args below meth c s₁ B hml hv
  obtain ⟨rfl, hsz, hP, hK⟩ := hv
  have hx := B.exec
  have hb := B.bytes
  have hr := B.returns
  have hts := atoms_spec (ws := w_RM_door) B.pre
  have ht := fun w h => hts w (List.mem_cons_of_mem _ h)
  have hown : s.vm.findClass R_RM = some m.cls := findClass_of_methodNamed B.named
  have hlocks := B.notSynchronized
  subst hsz
  have hAd : ∀ q, q < NP → AS ad s.heap.size (ad q) := fun q h => Or.inl ⟨q, h, rfl⟩
  have hA : ∀ q : Nat, s.heap.size ≤ q → AS ad s.heap.size q := fun q h => Or.inr h
  have hAS : ∀ z : Nat, s.heap.size ≤ z → ∀ q : Nat, AS ad z q → AS ad s.heap.size q := fun z h q hq => hq.elim Or.inl (fun g => Or.inr (Nat.le_trans h g))
  generalize hAe : AS ad s.heap.size = A at hAd hA hAS ⊢
  have hS : va_S A s.heap s.heap [] := va_S.rf
  have hl := lv_entry ([.ref (ad 33)]) (n := 1) (Nat.le_of_ble_eq_true rfl)
  rw [lg_entry_eq]
  generalize (lg_sl ([.ref (ad 33)]) ++ List.replicate (1 - (lg_sl ([.ref (ad 33)])).length) Slot.unset).toArray = ls at hl ⊢
  have hl : lv_has ls 1 [(0, .ref (ad 33))] := hl
  have hf := (f_RM_door_s S).symm
  generalize hQ : MQ below _ _ s _ _ _ = Q
  refine lv_aload_n hx hb d_RM_door_0 rfl (lv_at hl 0 rfl) ?_
  refine lv_aload_n hx hb d_RM_door_1 rfl (lv_at hl 0 rfl) ?_
  refine va_get (D := D) (ci := 5) (v := .int (S.1 33 4)) (C := R_RM) (T := T_RM) (N := 13) hx hb ht i_RM hown hK hP 33 Xa_33 rfl 4 (by decide) (ht _ mF_RM_42) (fun _ h9 => h9) rfl d_RM_door_2 ?_
  refine lv_bipush (v := 6) hx hb d_RM_door_5 (by decide) ?_
  refine lv_icmp_ne (tgt := 14) hx hb d_RM_door_7 (by decide) (fun c1 => ?_) (fun c1 => ?_)
  · rw [if_neg c1] at hf
    refine lv_iconst (v := 0) hx hb d_RM_door_14 (by decide) ?_
    refine va_put (D := D) (ci := 5) (v := .int (0 : Int32)) (ty := .int) (C := R_RM) (T := T_RM) (N := 13) hx hb ht i_RM t_RM t_RM_ok n_RM hown hK hP (X_D hI hAd) hS 33 Xa_33 rfl 0 (by decide) (ht _ mF_RM_36) (fun _ h9 => h9) rfl (by decide +kernel) rfl rfl (Nat.le_of_ble_eq_true rfl) d_RM_door_15 (fun H locs hP _ hS => ?_)
    replace hP := X_putI (by decide) hP rfl
    refine lv_aload_n hx hb d_RM_door_18 rfl (lv_at hl 0 rfl) ?_
    refine va_get (D := D) (ci := 5) (v := .int (0 : Int32)) (C := R_RM) (T := T_RM) (N := 13) hx hb ht i_RM hown hK hP 33 Xa_33 rfl 0 (by decide) (ht _ mF_RM_36) (fun _ h9 => h9) rfl d_RM_door_19 ?_
    refine lv_if_le (tgt := 27) hx hb d_RM_door_22 (by decide) (fun c2 => ?_) (fun c2 => absurd c2 (by decide))
    refine lv_aload_n hx hb d_RM_door_27 rfl (lv_at hl 0 rfl) ?_
    refine lv_dup hx hb d_RM_door_28 rfl ?_
    refine va_get (D := D) (ci := 5) (v := .int (S.1 33 4)) (C := R_RM) (T := T_RM) (N := 13) hx hb ht i_RM hown hK hP 33 Xa_33 rfl 4 (by decide) (ht _ mF_RM_42) (fun _ h9 => h9) rfl d_RM_door_29 ?_
    refine lv_iconst (v := 1) hx hb d_RM_door_32 (by decide) ?_
    refine lv_iadd hx hb d_RM_door_33 ?_
    refine va_put (D := D) (ci := 5) (v := .int ((S.1 33 4) + (1 : Int32))) (ty := .int) (C := R_RM) (T := T_RM) (N := 13) hx hb ht i_RM t_RM t_RM_ok n_RM hown hK hP (X_D hI hAd) hS 33 Xa_33 rfl 4 (by decide) (ht _ mF_RM_42) (fun _ h9 => h9) rfl (by decide +kernel) rfl rfl (Nat.le_of_ble_eq_true rfl) d_RM_door_34 (fun H locs hP _ hS => ?_)
    replace hP := X_putI (by decide) hP rfl
    refine lv_aload_n hx hb d_RM_door_37 rfl (lv_at hl 0 rfl) ?_
    refine lv_iconst (v := 0) hx hb d_RM_door_38 (by decide) ?_
    refine va_put (D := D) (ci := 5) (v := .int (0 : Int32)) (ty := .boolean) (C := R_RM) (T := T_RM) (N := 13) hx hb ht i_RM t_RM t_RM_ok n_RM hown hK hP (X_D hI hAd) hS 33 Xa_33 rfl 9 (by decide) (ht _ mF_RM_45) (fun _ h9 => h9) rfl (by decide +kernel) rfl rfl (Nat.le_of_ble_eq_true rfl) d_RM_door_39 (fun H locs hP _ hS => ?_)
    replace hP := X_putI (by decide) hP rfl
    refine lv_aload_n hx hb d_RM_door_42 rfl (lv_at hl 0 rfl) ?_
    refine va_get (D := D) (ci := 5) (v := .int ((S.1 33 4) + (1 : Int32))) (C := R_RM) (T := T_RM) (N := 13) hx hb ht i_RM hown hK hP 33 Xa_33 rfl 4 (by decide) (ht _ mF_RM_42) (fun _ h9 => h9) rfl d_RM_door_43 ?_
    refine lv_iconst (v := 1) hx hb d_RM_door_46 (by decide) ?_
    refine lv_isub hx hb d_RM_door_47 ?_
    rw [← hQ]
    exact W.iret (v := ((S.1 33 4) + (1 : Int32)) - (1 : Int32)) hx hb hr (fun t ht hW => ⟨⟨((S.1 33 4) + (1 : Int32)) - (1 : Int32), wI (wI (wI S 33 0 (0 : Int32)) 33 4 ((S.1 33 4) + (1 : Int32))) 33 9 (0 : Int32), rfl, hf.symm, by rw [ht]; exact hP, va_K.moved hW.alike hK⟩, hS.F ht⟩) hS.2.2 d_RM_door_48
  · rw [if_pos c1] at hf
    refine lv_iconst (v := 1) hx hb d_RM_door_10 (by decide) ?_
    refine lv_goto (tgt := 15) hx hb d_RM_door_11 (by decide) ?_
    refine va_put (D := D) (ci := 5) (v := .int (1 : Int32)) (ty := .int) (C := R_RM) (T := T_RM) (N := 13) hx hb ht i_RM t_RM t_RM_ok n_RM hown hK hP (X_D hI hAd) hS 33 Xa_33 rfl 0 (by decide) (ht _ mF_RM_36) (fun _ h9 => h9) rfl (by decide +kernel) rfl rfl (Nat.le_of_ble_eq_true rfl) d_RM_door_15 (fun H locs hP _ hS => ?_)
    replace hP := X_putI (by decide) hP rfl
    refine lv_aload_n hx hb d_RM_door_18 rfl (lv_at hl 0 rfl) ?_
    refine va_get (D := D) (ci := 5) (v := .int (1 : Int32)) (C := R_RM) (T := T_RM) (N := 13) hx hb ht i_RM hown hK hP 33 Xa_33 rfl 0 (by decide) (ht _ mF_RM_36) (fun _ h9 => h9) rfl d_RM_door_19 ?_
    refine lv_if_le (tgt := 27) hx hb d_RM_door_22 (by decide) (fun c3 => absurd c3 (by decide)) (fun c3 => ?_)
    refine lv_iconst (v := 0) hx hb d_RM_door_25 (by decide) ?_
    rw [← hQ]
    exact W.iret (v := (0 : Int32)) hx hb hr (fun t ht hW => ⟨⟨(0 : Int32), wI S 33 0 (1 : Int32), rfl, hf.symm, by rw [ht]; exact hP, va_K.moved hW.alike hK⟩, hS.F ht⟩) hS.2.2 d_RM_door_26
set_option maxHeartbeats 4000000 in
set_option maxRecDepth 100000 in
theorem c_RM_noKey (l : Launch) (D : va_G) (cA : Nat → ClassId) (ad : Nat → Nat) (hI : InjA ad) (sz : Nat) (a1 : Int32) (S : SS) (hs : f_RM_noKey a1 S ≠ none) : Met l y_RM_noKey w_RM_noKey ({ frames := 0, cells := 0, slots := 0, locals := 0 }) (va_Pc [.ref (ad 33), .int a1] (fun U => U.heap.size = sz ∧ va_P D vwCl (X cA ad S) U.heap ∧ va_K D vwCl (tysX cA) U)) (va_Qi (fun (r : Int32) (_ : Unit) => f_RM_noKey a1 S = some r ∧ (r = 0 ∨ r = 1)) (fun (_ : Unit) t => va_P D vwCl (X cA ad S) t.heap ∧ va_K D vwCl (tysX cA) t) (AS ad sz)) 0 0 (AS ad sz) := by
  refine Met.ofW (cc := b_RM_noKey) (maxL := 2) (ret := (some .boolean)) (by decide) rfl ?_
  intro p e s m args below meth c s₁ B hml hv
  obtain ⟨rfl, hsz, hP, hK⟩ := hv
  have hx := B.exec
  have hb := B.bytes
  have hr := B.returns
  have hts := atoms_spec (ws := w_RM_noKey) B.pre
  have ht := fun w h => hts w (List.mem_cons_of_mem _ h)
  have hown : s.vm.findClass R_RM = some m.cls := findClass_of_methodNamed B.named
  have hlocks := B.notSynchronized
  subst hsz
  have hAd : ∀ q, q < NP → AS ad s.heap.size (ad q) := fun q h => Or.inl ⟨q, h, rfl⟩
  have hA : ∀ q : Nat, s.heap.size ≤ q → AS ad s.heap.size q := fun q h => Or.inr h
  have hAS : ∀ z : Nat, s.heap.size ≤ z → ∀ q : Nat, AS ad z q → AS ad s.heap.size q := fun z h q hq => hq.elim Or.inl (fun g => Or.inr (Nat.le_trans h g))
  generalize hAe : AS ad s.heap.size = A at hAd hA hAS ⊢
  have hS : va_S A s.heap s.heap [] := va_S.rf
  have hl := lv_entry ([.ref (ad 33), .int a1]) (n := 2) (Nat.le_of_ble_eq_true rfl)
  rw [lg_entry_eq]
  generalize (lg_sl ([.ref (ad 33), .int a1]) ++ List.replicate (2 - (lg_sl ([.ref (ad 33), .int a1])).length) Slot.unset).toArray = ls at hl ⊢
  have hl : lv_has ls 2 [(0, .ref (ad 33)), (1, .int a1)] := hl
  have hf := (f_RM_noKey_s a1 S).symm
  generalize hQ : MQ below _ _ s _ _ _ = Q
  refine lv_iload_n hx hb d_RM_noKey_0 rfl (lv_at hl 1 rfl) ?_
  refine lv_if_lt (tgt := 12) hx hb d_RM_noKey_1 (by decide) (fun c1 => ?_) (fun c1 => ?_)
  · rw [if_pos c1] at hf
    refine lv_iconst (v := 1) hx hb d_RM_noKey_12 (by decide) ?_
    refine lv_goto (tgt := 17) hx hb d_RM_noKey_13 (by decide) ?_
    rw [← hQ]
    have hz : (1 : Int32) = 0 ∨ (1 : Int32) = 1 := Or.inr rfl
    exact W.zret (v := (1 : Int32)) hx hb hr (zb_n hz) (fun t ht hW => ⟨⟨(1 : Int32), (), rfl, ⟨hf.symm, hz⟩, by rw [ht]; exact hP, va_K.moved hW.alike hK⟩, hS.F ht⟩) hS.2.2 d_RM_noKey_17
  · rw [if_neg c1] at hf
    refine lv_iload_n hx hb d_RM_noKey_4 rfl (lv_at hl 1 rfl) ?_
    refine lv_aload_n hx hb d_RM_noKey_5 rfl (lv_at hl 0 rfl) ?_
    refine va_get (D := D) (ci := 5) (v := .int (S.1 33 3)) (C := R_RM) (T := T_RM) (N := 13) hx hb ht i_RM hown hK hP 33 Xa_33 rfl 3 (by decide) (ht _ mF_RM_39) (fun _ h9 => h9) rfl d_RM_noKey_6 ?_
    refine lv_icmp_lt (tgt := 16) hx hb d_RM_noKey_9 (by decide) (fun c2 => ?_) (fun c2 => ?_)
    · rw [if_pos c2] at hf
      refine lv_iconst (v := 0) hx hb d_RM_noKey_16 (by decide) ?_
      rw [← hQ]
      have hz : (0 : Int32) = 0 ∨ (0 : Int32) = 1 := Or.inl rfl
      exact W.zret (v := (0 : Int32)) hx hb hr (zb_n hz) (fun t ht hW => ⟨⟨(0 : Int32), (), rfl, ⟨hf.symm, hz⟩, by rw [ht]; exact hP, va_K.moved hW.alike hK⟩, hS.F ht⟩) hS.2.2 d_RM_noKey_17
    · rw [if_neg c2] at hf
      refine lv_iconst (v := 1) hx hb d_RM_noKey_12 (by decide) ?_
      refine lv_goto (tgt := 17) hx hb d_RM_noKey_13 (by decide) ?_
      rw [← hQ]
      have hz : (1 : Int32) = 0 ∨ (1 : Int32) = 1 := Or.inr rfl
      exact W.zret (v := (1 : Int32)) hx hb hr (zb_n hz) (fun t ht hW => ⟨⟨(1 : Int32), (), rfl, ⟨hf.symm, hz⟩, by rw [ht]; exact hP, va_K.moved hW.alike hK⟩, hS.F ht⟩) hS.2.2 d_RM_noKey_17
set_option maxHeartbeats 4000000 in
set_option maxRecDepth 100000 in
theorem c_RM_noDoor (l : Launch) (D : va_G) (cA : Nat → ClassId) (ad : Nat → Nat) (hI : InjA ad) (sz : Nat) (a1 : Int32) (S : SS) (hs : f_RM_noDoor a1 S ≠ none) : Met l y_RM_noDoor w_RM_noDoor ({ frames := 0, cells := 0, slots := 0, locals := 0 }) (va_Pc [.ref (ad 33), .int a1] (fun U => U.heap.size = sz ∧ va_P D vwCl (X cA ad S) U.heap ∧ va_K D vwCl (tysX cA) U)) (va_Qi (fun (r : Int32) (_ : Unit) => f_RM_noDoor a1 S = some r ∧ (r = 0 ∨ r = 1)) (fun (_ : Unit) t => va_P D vwCl (X cA ad S) t.heap ∧ va_K D vwCl (tysX cA) t) (AS ad sz)) 0 0 (AS ad sz) := by
  refine Met.ofW (cc := b_RM_noDoor) (maxL := 2) (ret := (some .boolean)) (by decide) rfl ?_
  intro p e s m args below meth c s₁ B hml hv
  obtain ⟨rfl, hsz, hP, hK⟩ := hv
  have hx := B.exec
  have hb := B.bytes
  have hr := B.returns
  have hts := atoms_spec (ws := w_RM_noDoor) B.pre
  have ht := fun w h => hts w (List.mem_cons_of_mem _ h)
  have hown : s.vm.findClass R_RM = some m.cls := findClass_of_methodNamed B.named
  have hlocks := B.notSynchronized
  subst hsz
  have hAd : ∀ q, q < NP → AS ad s.heap.size (ad q) := fun q h => Or.inl ⟨q, h, rfl⟩
  have hA : ∀ q : Nat, s.heap.size ≤ q → AS ad s.heap.size q := fun q h => Or.inr h
  have hAS : ∀ z : Nat, s.heap.size ≤ z → ∀ q : Nat, AS ad z q → AS ad s.heap.size q := fun z h q hq => hq.elim Or.inl (fun g => Or.inr (Nat.le_trans h g))
  generalize hAe : AS ad s.heap.size = A at hAd hA hAS ⊢
  have hS : va_S A s.heap s.heap [] := va_S.rf
  have hl := lv_entry ([.ref (ad 33), .int a1]) (n := 2) (Nat.le_of_ble_eq_true rfl)
  rw [lg_entry_eq]
  generalize (lg_sl ([.ref (ad 33), .int a1]) ++ List.replicate (2 - (lg_sl ([.ref (ad 33), .int a1])).length) Slot.unset).toArray = ls at hl ⊢
  have hl : lv_has ls 2 [(0, .ref (ad 33)), (1, .int a1)] := hl
  have hf := (f_RM_noDoor_s a1 S).symm
  generalize hQ : MQ below _ _ s _ _ _ = Q
  refine lv_iload_n hx hb d_RM_noDoor_0 rfl (lv_at hl 1 rfl) ?_
  refine lv_if_lt (tgt := 12) hx hb d_RM_noDoor_1 (by decide) (fun c1 => ?_) (fun c1 => ?_)
  · rw [if_pos c1] at hf
    refine lv_iconst (v := 1) hx hb d_RM_noDoor_12 (by decide) ?_
    refine lv_goto (tgt := 17) hx hb d_RM_noDoor_13 (by decide) ?_
    rw [← hQ]
    have hz : (1 : Int32) = 0 ∨ (1 : Int32) = 1 := Or.inr rfl
    exact W.zret (v := (1 : Int32)) hx hb hr (zb_n hz) (fun t ht hW => ⟨⟨(1 : Int32), (), rfl, ⟨hf.symm, hz⟩, by rw [ht]; exact hP, va_K.moved hW.alike hK⟩, hS.F ht⟩) hS.2.2 d_RM_noDoor_17
  · rw [if_neg c1] at hf
    refine lv_iload_n hx hb d_RM_noDoor_4 rfl (lv_at hl 1 rfl) ?_
    refine lv_aload_n hx hb d_RM_noDoor_5 rfl (lv_at hl 0 rfl) ?_
    refine va_get (D := D) (ci := 5) (v := .int (S.1 33 4)) (C := R_RM) (T := T_RM) (N := 13) hx hb ht i_RM hown hK hP 33 Xa_33 rfl 4 (by decide) (ht _ mF_RM_42) (fun _ h9 => h9) rfl d_RM_noDoor_6 ?_
    refine lv_icmp_lt (tgt := 16) hx hb d_RM_noDoor_9 (by decide) (fun c2 => ?_) (fun c2 => ?_)
    · rw [if_pos c2] at hf
      refine lv_iconst (v := 0) hx hb d_RM_noDoor_16 (by decide) ?_
      rw [← hQ]
      have hz : (0 : Int32) = 0 ∨ (0 : Int32) = 1 := Or.inl rfl
      exact W.zret (v := (0 : Int32)) hx hb hr (zb_n hz) (fun t ht hW => ⟨⟨(0 : Int32), (), rfl, ⟨hf.symm, hz⟩, by rw [ht]; exact hP, va_K.moved hW.alike hK⟩, hS.F ht⟩) hS.2.2 d_RM_noDoor_17
    · rw [if_neg c2] at hf
      refine lv_iconst (v := 1) hx hb d_RM_noDoor_12 (by decide) ?_
      refine lv_goto (tgt := 17) hx hb d_RM_noDoor_13 (by decide) ?_
      rw [← hQ]
      have hz : (1 : Int32) = 0 ∨ (1 : Int32) = 1 := Or.inr rfl
      exact W.zret (v := (1 : Int32)) hx hb hr (zb_n hz) (fun t ht hW => ⟨⟨(1 : Int32), (), rfl, ⟨hf.symm, hz⟩, by rw [ht]; exact hP, va_K.moved hW.alike hK⟩, hS.F ht⟩) hS.2.2 d_RM_noDoor_17
set_option maxHeartbeats 4000000 in
set_option maxRecDepth 100000 in
theorem c_RM_must (l : Launch) (D : va_G) (cA : Nat → ClassId) (ad : Nat → Nat) (hI : InjA ad) (sz : Nat) (a1 : Int32) (a2 : Int32) (a3 : Int32) (S : SS) (hs : f_RM_must a1 a2 a3 S ≠ none) : Met l y_RM_must w_RM_must ({ frames := 1, cells := 0, slots := 0, locals := 21 }) (va_Pc [.ref (ad 33), .int a1, .int a2, .int a3] (fun U => U.heap.size = sz ∧ va_P D vwCl (X cA ad S) U.heap ∧ va_K D vwCl (tysX cA) U)) (va_Qi (fun (r : Int32) (u : SS) => f_RM_must a1 a2 a3 S = some (r, u) ∧ (r = 0 ∨ r = 1)) (fun (u : SS) t => va_P D vwCl (X cA ad u) t.heap ∧ va_K D vwCl (tysX cA) t) (AS ad sz)) 0 0 (AS ad sz) := by
  refine Met.ofW (cc := b_RM_must) (maxL := 5) (ret := (some .boolean)) (by decide) rfl ?_
  intro p e s m args below meth c s₁ B hml hv
  obtain ⟨rfl, hsz, hP, hK⟩ := hv
  have hx := B.exec
  have hb := B.bytes
  have hr := B.returns
  have hts := atoms_spec (ws := w_RM_must) B.pre
  have ht := fun w h => hts w (List.mem_cons_of_mem _ h)
  have hown : s.vm.findClass R_RM = some m.cls := findClass_of_methodNamed B.named
  have hlocks := B.notSynchronized
  subst hsz
  have hAd : ∀ q, q < NP → AS ad s.heap.size (ad q) := fun q h => Or.inl ⟨q, h, rfl⟩
  have hA : ∀ q : Nat, s.heap.size ≤ q → AS ad s.heap.size q := fun q h => Or.inr h
  have hAS : ∀ z : Nat, s.heap.size ≤ z → ∀ q : Nat, AS ad z q → AS ad s.heap.size q := fun z h q hq => hq.elim Or.inl (fun g => Or.inr (Nat.le_trans h g))
  generalize hAe : AS ad s.heap.size = A at hAd hA hAS ⊢
  have hS : va_S A s.heap s.heap [] := va_S.rf
  have hl := lv_entry ([.ref (ad 33), .int a1, .int a2, .int a3]) (n := 5) (Nat.le_of_ble_eq_true rfl)
  rw [lg_entry_eq]
  generalize (lg_sl ([.ref (ad 33), .int a1, .int a2, .int a3]) ++ List.replicate (5 - (lg_sl ([.ref (ad 33), .int a1, .int a2, .int a3])).length) Slot.unset).toArray = ls at hl ⊢
  have hl : lv_has ls 5 [(0, .ref (ad 33)), (1, .int a1), (2, .int a2), (3, .int a3)] := hl
  have hf := (f_RM_must_s a1 a2 a3 S).symm
  generalize hQ : MQ below _ _ s _ _ _ = Q
  refine lv_aload_n hx hb d_RM_must_0 rfl (lv_at hl 0 rfl) ?_
  refine lv_aload_n hx hb d_RM_must_1 rfl (lv_at hl 0 rfl) ?_
  refine lv_iload_n hx hb d_RM_must_2 rfl (lv_at hl 1 rfl) ?_
  refine va_calli (va_runV (As := [.int a1]) (rest := [.ref (ad 33)]) ⟨hx, hb, hml, hown, ht⟩ (c_RM_noKey l D cA ad hI s.heap.size a1 S (fun hn => hs (by rw [hn] at hf; exact hf.symm))) (cwV 1 ht (good_G (gV mM_RM_49 mI_RM_noKey mV_RM_noKey mN_RM mk_RM_noKey)) rfl rfl rfl (by decide +kernel) ⟨Nat.le_of_ble_eq_true rfl, Nat.le_of_ble_eq_true rfl⟩) ⟨fun a U g mk q => ⟨q.1, q.2.1, q.2.2.1, va_K.moved (u := U) (U := U.calling g mk a) (Vm.Alike.refl U.vm) q.2.2.2⟩, va_recv hK hP (ci := 5) (q0 := 33) rfl Xa_33, fun U hU hW => ⟨rfl, by rw [hU], by rw [hU]; exact hP, va_K.moved hW.alike hK⟩⟩ rfl rfl hl.1 rfl (lv_room (Nat.le_of_ble_eq_true rfl)) d_RM_must_3 ⟨Nat.le_of_ble_eq_true rfl, Nat.le_of_ble_eq_true rfl⟩) hS (fun q _ h => hAS _ hS.1 q h) (fun q h => hAS _ hS.1 q h) (fun r1 _ t H locs ht9 hvm hw hB hz1 hk1 hS => ?_)
  obtain ⟨hP, hK9⟩ := hB
  rw [ht9] at hP
  obtain ⟨hw, hz1⟩ := hw
  rw [hw, Option.bind_some] at hf
  refine lv_if_ne (tgt := 17) hx hb d_RM_must_6 (by decide) (fun c1 => ?_) (fun c1 => ?_)
  · rw [if_neg c1] at hf
    refine lv_iconst (v := 1) hx hb d_RM_must_17 (by decide) ?_
    refine lv_goto (tgt := 22) hx hb d_RM_must_18 (by decide) ?_
    refine va_put (D := D) (ci := 5) (v := .int (1 : Int32)) (ty := .int) (C := R_RM) (T := T_RM) (N := 13) hx hb ht i_RM t_RM t_RM_ok n_RM hown hK hP (X_D hI hAd) hS 33 Xa_33 rfl 0 (by decide) (ht _ mF_RM_36) (fun _ h9 => h9) rfl (by decide +kernel) rfl rfl (Nat.le_of_ble_eq_true rfl) d_RM_must_22 (fun H locs hP _ hS => ?_)
    replace hP := X_putI (by decide) hP rfl
    refine lv_aload_n hx hb d_RM_must_25 rfl (lv_at hl 0 rfl) ?_
    refine va_get (D := D) (ci := 5) (v := .int (1 : Int32)) (C := R_RM) (T := T_RM) (N := 13) hx hb ht i_RM hown hK hP 33 Xa_33 rfl 0 (by decide) (ht _ mF_RM_36) (fun _ h9 => h9) rfl d_RM_must_26 ?_
    refine lv_if_le (tgt := 34) hx hb d_RM_must_29 (by decide) (fun c2 => absurd c2 (by decide)) (fun c2 => ?_)
    refine lv_iconst (v := 0) hx hb d_RM_must_32 (by decide) ?_
    rw [← hQ]
    have hz : (0 : Int32) = 0 ∨ (0 : Int32) = 1 := Or.inl rfl
    exact W.zret (v := (0 : Int32)) hx hb hr (zb_n hz) (fun t ht hW => ⟨⟨(0 : Int32), wI S 33 0 (1 : Int32), rfl, ⟨hf.symm, hz⟩, by rw [ht]; exact hP, va_K.moved hW.alike hK⟩, hS.F ht⟩) hS.2.2 d_RM_must_33
  · rw [if_pos c1] at hf
    refine lv_aload_n hx hb d_RM_must_9 rfl (lv_at hl 0 rfl) ?_
    refine lv_iload_n hx hb d_RM_must_10 rfl (lv_at hl 2 rfl) ?_
    refine va_calli (va_runV (As := [.int a2]) (rest := [.ref (ad 33)]) ⟨hx, hb, hml, hown, ht⟩ (c_RM_noDoor l D cA ad hI H.size a2 S (fun hn => hs (by rw [hn] at hf; exact hf.symm))) (cwV 1 ht (good_G (gV mM_RM_53 mI_RM_noDoor mV_RM_noDoor mN_RM mk_RM_noDoor)) rfl rfl rfl (by decide +kernel) ⟨Nat.le_of_ble_eq_true rfl, Nat.le_of_ble_eq_true rfl⟩) ⟨fun a U g mk q => ⟨q.1, q.2.1, q.2.2.1, va_K.moved (u := U) (U := U.calling g mk a) (Vm.Alike.refl U.vm) q.2.2.2⟩, va_recv hK hP (ci := 5) (q0 := 33) rfl Xa_33, fun U hU hW => ⟨rfl, by rw [hU], by rw [hU]; exact hP, va_K.moved hW.alike hK⟩⟩ rfl rfl hl.1 rfl (lv_room (Nat.le_of_ble_eq_true rfl)) d_RM_must_11 ⟨Nat.le_of_ble_eq_true rfl, Nat.le_of_ble_eq_true rfl⟩) hS (fun q _ h => hAS _ hS.1 q h) (fun q h => hAS _ hS.1 q h) (fun r2 _ t H locs ht9 hvm hw hB hz1 hk1 hS => ?_)
    obtain ⟨hP, hK9⟩ := hB
    rw [ht9] at hP
    obtain ⟨hw, hz2⟩ := hw
    rw [hw, Option.bind_some] at hf
    refine lv_if_eq (tgt := 21) hx hb d_RM_must_14 (by decide) (fun c3 => ?_) (fun c3 => ?_)
    · rw [if_pos c3] at hf
      refine lv_iconst (v := 0) hx hb d_RM_must_21 (by decide) ?_
      refine va_put (D := D) (ci := 5) (v := .int (0 : Int32)) (ty := .int) (C := R_RM) (T := T_RM) (N := 13) hx hb ht i_RM t_RM t_RM_ok n_RM hown hK hP (X_D hI hAd) hS 33 Xa_33 rfl 0 (by decide) (ht _ mF_RM_36) (fun _ h9 => h9) rfl (by decide +kernel) rfl rfl (Nat.le_of_ble_eq_true rfl) d_RM_must_22 (fun H locs hP _ hS => ?_)
      replace hP := X_putI (by decide) hP rfl
      refine lv_aload_n hx hb d_RM_must_25 rfl (lv_at hl 0 rfl) ?_
      refine va_get (D := D) (ci := 5) (v := .int (0 : Int32)) (C := R_RM) (T := T_RM) (N := 13) hx hb ht i_RM hown hK hP 33 Xa_33 rfl 0 (by decide) (ht _ mF_RM_36) (fun _ h9 => h9) rfl d_RM_must_26 ?_
      refine lv_if_le (tgt := 34) hx hb d_RM_must_29 (by decide) (fun c4 => ?_) (fun c4 => absurd c4 (by decide))
      refine lv_aload_n hx hb d_RM_must_34 rfl (lv_at hl 0 rfl) ?_
      refine va_get (D := D) (ci := 5) (v := .ref (ad 34)) (C := R_RM) (T := T_RM) (N := 13) hx hb ht i_RM hown hK hP 33 Xa_33 rfl 5 (by decide) (ht _ mF_RM_7) (fun _ h9 => h9) rfl d_RM_must_35 ?_
      refine lv_bipush (v := 6) hx hb d_RM_must_38 (by decide) ?_
      refine lv_iload_n hx hb d_RM_must_40 rfl (lv_at hl 1 rfl) ?_
      refine lv_imul hx hb d_RM_must_41 ?_
      refine lv_iload_n hx hb d_RM_must_42 rfl (lv_at hl 2 rfl) ?_
      refine lv_iadd hx hb d_RM_must_43 ?_
      by_cases b5 : oob (((6 : Int32) * a1) + a2) 48
      · rw [if_pos b5] at hf; exact absurd hf.symm hs
      rw [if_neg b5] at hf
      refine va_zald (f := S.1 34) hx hb hK hP 34 4 Xa_34 rfl b5 d_RM_must_44 ?_
      refine lv_istore (lv' := [(4, .int (S.1 34 (((6 : Int32) * a1) + a2).toNatClampNeg)), (0, .ref (ad 33)), (1, .int a1), (2, .int a2), (3, .int a3)]) hx hb d_RM_must_45 hl (by decide) rfl (fun ls hl => ?_)
      refine lv_aload_n hx hb d_RM_must_47 rfl (lv_at hl 1 rfl) ?_
      refine va_get (D := D) (ci := 5) (v := .ref (ad 34)) (C := R_RM) (T := T_RM) (N := 13) hx hb ht i_RM hown hK hP 33 Xa_33 rfl 5 (by decide) (ht _ mF_RM_7) (fun _ h9 => h9) rfl d_RM_must_48 ?_
      refine lv_bipush (v := 6) hx hb d_RM_must_51 (by decide) ?_
      refine lv_iload_n hx hb d_RM_must_53 rfl (lv_at hl 2 rfl) ?_
      refine lv_imul hx hb d_RM_must_54 ?_
      refine lv_iload_n hx hb d_RM_must_55 rfl (lv_at hl 3 rfl) ?_
      refine lv_iadd hx hb d_RM_must_56 ?_
      refine lv_iload_n hx hb d_RM_must_57 rfl (lv_at hl 4 rfl) ?_
      refine va_zast hx hb hK hP (X_D hI hAd) hS 34 4 Xa_34 rfl b5 d_RM_must_58 (fun H locs hP _ hS => ?_)
      replace hP := X_stI (by decide) Xc_34 hP
      refine lv_aload_n hx hb d_RM_must_59 rfl (lv_at hl 1 rfl) ?_
      refine lv_iconst (v := 0) hx hb d_RM_must_60 (by decide) ?_
      refine va_put (D := D) (ci := 5) (v := .int (0 : Int32)) (ty := .boolean) (C := R_RM) (T := T_RM) (N := 13) hx hb ht i_RM t_RM t_RM_ok n_RM hown hK hP (X_D hI hAd) hS 33 Xa_33 rfl 9 (by decide) (ht _ mF_RM_45) (fun _ h9 => h9) rfl (by decide +kernel) rfl rfl (Nat.le_of_ble_eq_true rfl) d_RM_must_61 (fun H locs hP _ hS => ?_)
      replace hP := X_putI (by decide) hP rfl
      refine lv_iload hx hb d_RM_must_64 (lv_at hl 0 rfl) ?_
      by_cases hz : (S.1 34 (((6 : Int32) * a1) + a2).toNatClampNeg) = 0 ∨ (S.1 34 (((6 : Int32) * a1) + a2).toNatClampNeg) = 1
      case neg => rw [if_neg hz] at hf; exact absurd hf.symm hs
      rw [if_pos hz] at hf
      rw [← hQ]
      exact W.zret (v := S.1 34 (((6 : Int32) * a1) + a2).toNatClampNeg) hx hb hr (zb_n hz) (fun t ht hW => ⟨⟨S.1 34 (((6 : Int32) * a1) + a2).toNatClampNeg, wI (wI (wI S 33 0 (0 : Int32)) 34 (((6 : Int32) * a1) + a2).toNatClampNeg (vp_nar .boolean a3)) 33 9 (0 : Int32), rfl, ⟨hf.symm, hz⟩, by rw [ht]; exact hP, va_K.moved hW.alike hK⟩, hS.F ht⟩) hS.2.2 d_RM_must_66
    · rw [if_neg c3] at hf
      refine lv_iconst (v := 1) hx hb d_RM_must_17 (by decide) ?_
      refine lv_goto (tgt := 22) hx hb d_RM_must_18 (by decide) ?_
      refine va_put (D := D) (ci := 5) (v := .int (1 : Int32)) (ty := .int) (C := R_RM) (T := T_RM) (N := 13) hx hb ht i_RM t_RM t_RM_ok n_RM hown hK hP (X_D hI hAd) hS 33 Xa_33 rfl 0 (by decide) (ht _ mF_RM_36) (fun _ h9 => h9) rfl (by decide +kernel) rfl rfl (Nat.le_of_ble_eq_true rfl) d_RM_must_22 (fun H locs hP _ hS => ?_)
      replace hP := X_putI (by decide) hP rfl
      refine lv_aload_n hx hb d_RM_must_25 rfl (lv_at hl 0 rfl) ?_
      refine va_get (D := D) (ci := 5) (v := .int (1 : Int32)) (C := R_RM) (T := T_RM) (N := 13) hx hb ht i_RM hown hK hP 33 Xa_33 rfl 0 (by decide) (ht _ mF_RM_36) (fun _ h9 => h9) rfl d_RM_must_26 ?_
      refine lv_if_le (tgt := 34) hx hb d_RM_must_29 (by decide) (fun c6 => absurd c6 (by decide)) (fun c6 => ?_)
      refine lv_iconst (v := 0) hx hb d_RM_must_32 (by decide) ?_
      rw [← hQ]
      have hz : (0 : Int32) = 0 ∨ (0 : Int32) = 1 := Or.inl rfl
      exact W.zret (v := (0 : Int32)) hx hb hr (zb_n hz) (fun t ht hW => ⟨⟨(0 : Int32), wI S 33 0 (1 : Int32), rfl, ⟨hf.symm, hz⟩, by rw [ht]; exact hP, va_K.moved hW.alike hK⟩, hS.F ht⟩) hS.2.2 d_RM_must_33
set_option maxHeartbeats 4000000 in
set_option maxRecDepth 100000 in
theorem c_RM_isIn (l : Launch) (D : va_G) (cA : Nat → ClassId) (ad : Nat → Nat) (hI : InjA ad) (sz : Nat) (a0 : Int32) (a1 : Int32) (a2 : Int32) (S : SS) (hs : f_RM_isIn a0 a1 a2 S ≠ none) : Met l y_RM_isIn w_RM_isIn ({ frames := 0, cells := 0, slots := 0, locals := 0 }) (va_Pc [.int a0, .int a1, .int a2] (fun U => U.heap.size = sz ∧ va_P D vwCl (X cA ad S) U.heap ∧ va_K D vwCl (tysX cA) U)) (va_Qi (fun (r : Int32) (_ : Unit) => f_RM_isIn a0 a1 a2 S = some r ∧ (r = 0 ∨ r = 1)) (fun (_ : Unit) t => va_P D vwCl (X cA ad S) t.heap ∧ va_K D vwCl (tysX cA) t) (AS ad sz)) 0 0 (AS ad sz) := by
  refine Met.ofW (cc := b_RM_isIn) (maxL := 3) (ret := (some .boolean)) (by decide) rfl ?_
  intro p e s m args below meth c s₁ B hml hv
  obtain ⟨rfl, hsz, hP, hK⟩ := hv
  have hx := B.exec
  have hb := B.bytes
  have hr := B.returns
  have hts := atoms_spec (ws := w_RM_isIn) B.pre
  have ht := fun w h => hts w (List.mem_cons_of_mem _ h)
  have hown : s.vm.findClass R_RM = some m.cls := findClass_of_methodNamed B.named
  have hlocks := B.notSynchronized
  subst hsz
  have hAd : ∀ q, q < NP → AS ad s.heap.size (ad q) := fun q h => Or.inl ⟨q, h, rfl⟩
  have hA : ∀ q : Nat, s.heap.size ≤ q → AS ad s.heap.size q := fun q h => Or.inr h
  have hAS : ∀ z : Nat, s.heap.size ≤ z → ∀ q : Nat, AS ad z q → AS ad s.heap.size q := fun z h q hq => hq.elim Or.inl (fun g => Or.inr (Nat.le_trans h g))
  generalize hAe : AS ad s.heap.size = A at hAd hA hAS ⊢
  have hS : va_S A s.heap s.heap [] := va_S.rf
  have hl := lv_entry ([.int a0, .int a1, .int a2]) (n := 3) (Nat.le_of_ble_eq_true rfl)
  rw [lg_entry_eq]
  generalize (lg_sl ([.int a0, .int a1, .int a2]) ++ List.replicate (3 - (lg_sl ([.int a0, .int a1, .int a2])).length) Slot.unset).toArray = ls at hl ⊢
  have hl : lv_has ls 3 [(0, .int a0), (1, .int a1), (2, .int a2)] := hl
  have hf := (f_RM_isIn_s a0 a1 a2 S).symm
  generalize hQ : MQ below _ _ s _ _ _ = Q
  refine lv_iload_n hx hb d_RM_isIn_0 rfl (lv_at hl 0 rfl) ?_
  refine lv_iload_n hx hb d_RM_isIn_1 rfl (lv_at hl 1 rfl) ?_
  refine lv_icmp_lt (tgt := 14) hx hb d_RM_isIn_2 (by decide) (fun c1 => ?_) (fun c1 => ?_)
  · rw [if_pos c1] at hf
    refine lv_iconst (v := 0) hx hb d_RM_isIn_14 (by decide) ?_
    rw [← hQ]
    have hz : (0 : Int32) = 0 ∨ (0 : Int32) = 1 := Or.inl rfl
    exact W.zret (v := (0 : Int32)) hx hb hr (zb_n hz) (fun t ht hW => ⟨⟨(0 : Int32), (), rfl, ⟨hf.symm, hz⟩, by rw [ht]; exact hP, va_K.moved hW.alike hK⟩, hS.F ht⟩) hS.2.2 d_RM_isIn_15
  · rw [if_neg c1] at hf
    refine lv_iload_n hx hb d_RM_isIn_5 rfl (lv_at hl 0 rfl) ?_
    refine lv_iload_n hx hb d_RM_isIn_6 rfl (lv_at hl 2 rfl) ?_
    refine lv_icmp_gt (tgt := 14) hx hb d_RM_isIn_7 (by decide) (fun c2 => ?_) (fun c2 => ?_)
    · rw [if_pos c2] at hf
      refine lv_iconst (v := 0) hx hb d_RM_isIn_14 (by decide) ?_
      rw [← hQ]
      have hz : (0 : Int32) = 0 ∨ (0 : Int32) = 1 := Or.inl rfl
      exact W.zret (v := (0 : Int32)) hx hb hr (zb_n hz) (fun t ht hW => ⟨⟨(0 : Int32), (), rfl, ⟨hf.symm, hz⟩, by rw [ht]; exact hP, va_K.moved hW.alike hK⟩, hS.F ht⟩) hS.2.2 d_RM_isIn_15
    · rw [if_neg c2] at hf
      refine lv_iconst (v := 1) hx hb d_RM_isIn_10 (by decide) ?_
      refine lv_goto (tgt := 15) hx hb d_RM_isIn_11 (by decide) ?_
      rw [← hQ]
      have hz : (1 : Int32) = 0 ∨ (1 : Int32) = 1 := Or.inr rfl
      exact W.zret (v := (1 : Int32)) hx hb hr (zb_n hz) (fun t ht hW => ⟨⟨(1 : Int32), (), rfl, ⟨hf.symm, hz⟩, by rw [ht]; exact hP, va_K.moved hW.alike hK⟩, hS.F ht⟩) hS.2.2 d_RM_isIn_15
set_option maxHeartbeats 4000000 in
set_option maxRecDepth 100000 in
theorem c_RM_step (l : Launch) (D : va_G) (cA : Nat → ClassId) (ad : Nat → Nat) (hI : InjA ad) (sz : Nat) (a1 : Int32) (S : SS) (hs : f_RM_step a1 S ≠ none) : Met l y_RM_step w_RM_step ({ frames := 1, cells := 0, slots := 0, locals := 22 }) (va_Pc [.ref (ad 33), .int a1] (fun U => U.heap.size = sz ∧ va_P D vwCl (X cA ad S) U.heap ∧ va_K D vwCl (tysX cA) U)) (va_Qi (fun (r : Int32) (u : SS) => f_RM_step a1 S = some (r, u)) (fun (u : SS) t => va_P D vwCl (X cA ad u) t.heap ∧ va_K D vwCl (tysX cA) t) (AS ad sz)) 0 0 (AS ad sz) := by
  refine Met.ofW (cc := b_RM_step) (maxL := 3) (ret := (some .int)) (by decide) rfl ?_
  intro p e s m args below meth c s₁ B hml hv
  obtain ⟨rfl, hsz, hP, hK⟩ := hv
  have hx := B.exec
  have hb := B.bytes
  have hr := B.returns
  have hts := atoms_spec (ws := w_RM_step) B.pre
  have ht := fun w h => hts w (List.mem_cons_of_mem _ h)
  have hown : s.vm.findClass R_RM = some m.cls := findClass_of_methodNamed B.named
  have hlocks := B.notSynchronized
  subst hsz
  have hAd : ∀ q, q < NP → AS ad s.heap.size (ad q) := fun q h => Or.inl ⟨q, h, rfl⟩
  have hA : ∀ q : Nat, s.heap.size ≤ q → AS ad s.heap.size q := fun q h => Or.inr h
  have hAS : ∀ z : Nat, s.heap.size ≤ z → ∀ q : Nat, AS ad z q → AS ad s.heap.size q := fun z h q hq => hq.elim Or.inl (fun g => Or.inr (Nat.le_trans h g))
  generalize hAe : AS ad s.heap.size = A at hAd hA hAS ⊢
  have hS : va_S A s.heap s.heap [] := va_S.rf
  have hl := lv_entry ([.ref (ad 33), .int a1]) (n := 3) (Nat.le_of_ble_eq_true rfl)
  rw [lg_entry_eq]
  generalize (lg_sl ([.ref (ad 33), .int a1]) ++ List.replicate (3 - (lg_sl ([.ref (ad 33), .int a1])).length) Slot.unset).toArray = ls at hl ⊢
  have hl : lv_has ls 3 [(0, .ref (ad 33)), (1, .int a1)] := hl
  have hf := (f_RM_step_s a1 S).symm
  generalize hQ : MQ below _ _ s _ _ _ = Q
  refine lv_aload_n hx hb d_RM_step_0 rfl (lv_at hl 0 rfl) ?_
  refine lv_iload_n hx hb d_RM_step_1 rfl (lv_at hl 1 rfl) ?_
  refine lv_iconst (v := 0) hx hb d_RM_step_2 (by decide) ?_
  refine lv_bipush (v := 7) hx hb d_RM_step_3 (by decide) ?_
  refine va_calli (va_runS (As := [.int a1, .int (0 : Int32), .int (7 : Int32)]) (rest := [.ref (ad 33)]) ⟨hx, hb, hml, hown, ht⟩ (c_RM_isIn l D cA ad hI s.heap.size a1 (0 : Int32) (7 : Int32) S (fun hn => hs (by rw [hn] at hf; exact hf.symm))) (va_cwS 3 ht (good_G (gS mM_RM_56 mS_RM_isIn mN_RM mk_RM_isIn)) rfl rfl rfl (by decide +kernel) ⟨Nat.le_of_ble_eq_true rfl, Nat.le_of_ble_eq_true rfl⟩) ⟨fun a U g mk q => ⟨q.1, q.2.1, q.2.2.1, va_K.moved (u := U) (U := U.calling g mk a) (Vm.Alike.refl U.vm) q.2.2.2⟩, fun U hU hW => ⟨rfl, by rw [hU], by rw [hU]; exact hP, va_K.moved hW.alike hK⟩⟩ rfl rfl hl.1 rfl (lv_room (Nat.le_of_ble_eq_true rfl)) d_RM_step_5 ⟨Nat.le_of_ble_eq_true rfl, Nat.le_of_ble_eq_true rfl⟩) hS (fun q _ h => hAS _ hS.1 q h) (fun q h => hAS _ hS.1 q h) (fun r1 _ t H locs ht9 hvm hw hB hz1 hk1 hS => ?_)
  obtain ⟨hP, hK9⟩ := hB
  rw [ht9] at hP
  obtain ⟨hw, hz1⟩ := hw
  rw [hw, Option.bind_some] at hf
  refine lv_if_eq (tgt := 15) hx hb d_RM_step_8 (by decide) (fun c1 => ?_) (fun c1 => ?_)
  · rw [if_pos c1] at hf
    refine lv_iconst (v := 1) hx hb d_RM_step_15 (by decide) ?_
    refine va_put (D := D) (ci := 5) (v := .int (1 : Int32)) (ty := .int) (C := R_RM) (T := T_RM) (N := 13) hx hb ht i_RM t_RM t_RM_ok n_RM hown hK hP (X_D hI hAd) hS 33 Xa_33 rfl 0 (by decide) (ht _ mF_RM_36) (fun _ h9 => h9) rfl (by decide +kernel) rfl rfl (Nat.le_of_ble_eq_true rfl) d_RM_step_16 (fun H locs hP _ hS => ?_)
    replace hP := X_putI (by decide) hP rfl
    refine lv_aload_n hx hb d_RM_step_19 rfl (lv_at hl 0 rfl) ?_
    refine va_get (D := D) (ci := 5) (v := .int (1 : Int32)) (C := R_RM) (T := T_RM) (N := 13) hx hb ht i_RM hown hK hP 33 Xa_33 rfl 0 (by decide) (ht _ mF_RM_36) (fun _ h9 => h9) rfl d_RM_step_20 ?_
    refine lv_if_le (tgt := 28) hx hb d_RM_step_23 (by decide) (fun c2 => absurd c2 (by decide)) (fun c2 => ?_)
    refine lv_iconst (v := 0) hx hb d_RM_step_26 (by decide) ?_
    rw [← hQ]
    exact W.iret (v := (0 : Int32)) hx hb hr (fun t ht hW => ⟨⟨(0 : Int32), wI S 33 0 (1 : Int32), rfl, hf.symm, by rw [ht]; exact hP, va_K.moved hW.alike hK⟩, hS.F ht⟩) hS.2.2 d_RM_step_27
  · rw [if_neg c1] at hf
    refine lv_iconst (v := 0) hx hb d_RM_step_11 (by decide) ?_
    refine lv_goto (tgt := 16) hx hb d_RM_step_12 (by decide) ?_
    refine va_put (D := D) (ci := 5) (v := .int (0 : Int32)) (ty := .int) (C := R_RM) (T := T_RM) (N := 13) hx hb ht i_RM t_RM t_RM_ok n_RM hown hK hP (X_D hI hAd) hS 33 Xa_33 rfl 0 (by decide) (ht _ mF_RM_36) (fun _ h9 => h9) rfl (by decide +kernel) rfl rfl (Nat.le_of_ble_eq_true rfl) d_RM_step_16 (fun H locs hP _ hS => ?_)
    replace hP := X_putI (by decide) hP rfl
    refine lv_aload_n hx hb d_RM_step_19 rfl (lv_at hl 0 rfl) ?_
    refine va_get (D := D) (ci := 5) (v := .int (0 : Int32)) (C := R_RM) (T := T_RM) (N := 13) hx hb ht i_RM hown hK hP 33 Xa_33 rfl 0 (by decide) (ht _ mF_RM_36) (fun _ h9 => h9) rfl d_RM_step_20 ?_
    refine lv_if_le (tgt := 28) hx hb d_RM_step_23 (by decide) (fun c3 => ?_) (fun c3 => absurd c3 (by decide))
    refine lv_aload_n hx hb d_RM_step_28 rfl (lv_at hl 0 rfl) ?_
    refine va_get (D := D) (ci := 5) (v := .int (S.1 33 6)) (C := R_RM) (T := T_RM) (N := 13) hx hb ht i_RM hown hK hP 33 Xa_33 rfl 6 (by decide) (ht _ mF_RM_13) (fun _ h9 => h9) rfl d_RM_step_29 ?_
    refine lv_istore_n (lv' := [(2, .int (S.1 33 6)), (0, .ref (ad 33)), (1, .int a1)]) hx hb d_RM_step_32 rfl hl (by decide) rfl (fun ls hl => ?_)
    refine lv_aload_n hx hb d_RM_step_33 rfl (lv_at hl 1 rfl) ?_
    refine lv_iload_n hx hb d_RM_step_34 rfl (lv_at hl 2 rfl) ?_
    refine va_put (D := D) (ci := 5) (v := .int a1) (ty := .int) (C := R_RM) (T := T_RM) (N := 13) hx hb ht i_RM t_RM t_RM_ok n_RM hown hK hP (X_D hI hAd) hS 33 Xa_33 rfl 6 (by decide) (ht _ mF_RM_13) (fun _ h9 => h9) rfl (by decide +kernel) rfl rfl (Nat.le_of_ble_eq_true rfl) d_RM_step_35 (fun H locs hP _ hS => ?_)
    replace hP := X_putI (by decide) hP rfl
    refine lv_aload_n hx hb d_RM_step_38 rfl (lv_at hl 1 rfl) ?_
    refine lv_iconst (v := 0) hx hb d_RM_step_39 (by decide) ?_
    refine va_put (D := D) (ci := 5) (v := .int (0 : Int32)) (ty := .boolean) (C := R_RM) (T := T_RM) (N := 13) hx hb ht i_RM t_RM t_RM_ok n_RM hown hK hP (X_D hI hAd) hS 33 Xa_33 rfl 9 (by decide) (ht _ mF_RM_45) (fun _ h9 => h9) rfl (by decide +kernel) rfl rfl (Nat.le_of_ble_eq_true rfl) d_RM_step_40 (fun H locs hP _ hS => ?_)
    replace hP := X_putI (by decide) hP rfl
    refine lv_iload_n hx hb d_RM_step_43 rfl (lv_at hl 0 rfl) ?_
    rw [← hQ]
    exact W.iret (v := S.1 33 6) hx hb hr (fun t ht hW => ⟨⟨S.1 33 6, wI (wI (wI S 33 0 (0 : Int32)) 33 6 a1) 33 9 (0 : Int32), rfl, hf.symm, by rw [ht]; exact hP, va_K.moved hW.alike hK⟩, hS.F ht⟩) hS.2.2 d_RM_step_44
set_option maxHeartbeats 4000000 in
set_option maxRecDepth 100000 in
theorem c_RM_noDepth (l : Launch) (D : va_G) (cA : Nat → ClassId) (ad : Nat → Nat) (hI : InjA ad) (sz : Nat) (a1 : Int32) (S : SS) (hs : f_RM_noDepth a1 S ≠ none) : Met l y_RM_noDepth w_RM_noDepth ({ frames := 0, cells := 0, slots := 0, locals := 0 }) (va_Pc [.ref (ad 33), .int a1] (fun U => U.heap.size = sz ∧ va_P D vwCl (X cA ad S) U.heap ∧ va_K D vwCl (tysX cA) U)) (va_Qi (fun (r : Int32) (_ : Unit) => f_RM_noDepth a1 S = some r ∧ (r = 0 ∨ r = 1)) (fun (_ : Unit) t => va_P D vwCl (X cA ad S) t.heap ∧ va_K D vwCl (tysX cA) t) (AS ad sz)) 0 0 (AS ad sz) := by
  refine Met.ofW (cc := b_RM_noDepth) (maxL := 2) (ret := (some .boolean)) (by decide) rfl ?_
  intro p e s m args below meth c s₁ B hml hv
  obtain ⟨rfl, hsz, hP, hK⟩ := hv
  have hx := B.exec
  have hb := B.bytes
  have hr := B.returns
  have hts := atoms_spec (ws := w_RM_noDepth) B.pre
  have ht := fun w h => hts w (List.mem_cons_of_mem _ h)
  have hown : s.vm.findClass R_RM = some m.cls := findClass_of_methodNamed B.named
  have hlocks := B.notSynchronized
  subst hsz
  have hAd : ∀ q, q < NP → AS ad s.heap.size (ad q) := fun q h => Or.inl ⟨q, h, rfl⟩
  have hA : ∀ q : Nat, s.heap.size ≤ q → AS ad s.heap.size q := fun q h => Or.inr h
  have hAS : ∀ z : Nat, s.heap.size ≤ z → ∀ q : Nat, AS ad z q → AS ad s.heap.size q := fun z h q hq => hq.elim Or.inl (fun g => Or.inr (Nat.le_trans h g))
  generalize hAe : AS ad s.heap.size = A at hAd hA hAS ⊢
  have hS : va_S A s.heap s.heap [] := va_S.rf
  have hl := lv_entry ([.ref (ad 33), .int a1]) (n := 2) (Nat.le_of_ble_eq_true rfl)
  rw [lg_entry_eq]
  generalize (lg_sl ([.ref (ad 33), .int a1]) ++ List.replicate (2 - (lg_sl ([.ref (ad 33), .int a1])).length) Slot.unset).toArray = ls at hl ⊢
  have hl : lv_has ls 2 [(0, .ref (ad 33)), (1, .int a1)] := hl
  have hf := (f_RM_noDepth_s a1 S).symm
  generalize hQ : MQ below _ _ s _ _ _ = Q
  refine lv_iload_n hx hb d_RM_noDepth_0 rfl (lv_at hl 1 rfl) ?_
  refine lv_if_lt (tgt := 12) hx hb d_RM_noDepth_1 (by decide) (fun c1 => ?_) (fun c1 => ?_)
  · rw [if_pos c1] at hf
    refine lv_iconst (v := 1) hx hb d_RM_noDepth_12 (by decide) ?_
    refine lv_goto (tgt := 17) hx hb d_RM_noDepth_13 (by decide) ?_
    rw [← hQ]
    have hz : (1 : Int32) = 0 ∨ (1 : Int32) = 1 := Or.inr rfl
    exact W.zret (v := (1 : Int32)) hx hb hr (zb_n hz) (fun t ht hW => ⟨⟨(1 : Int32), (), rfl, ⟨hf.symm, hz⟩, by rw [ht]; exact hP, va_K.moved hW.alike hK⟩, hS.F ht⟩) hS.2.2 d_RM_noDepth_17
  · rw [if_neg c1] at hf
    refine lv_iload_n hx hb d_RM_noDepth_4 rfl (lv_at hl 1 rfl) ?_
    refine lv_aload_n hx hb d_RM_noDepth_5 rfl (lv_at hl 0 rfl) ?_
    refine va_get (D := D) (ci := 5) (v := .int (S.1 33 2)) (C := R_RM) (T := T_RM) (N := 13) hx hb ht i_RM hown hK hP 33 Xa_33 rfl 2 (by decide) (ht _ mF_RM_33) (fun _ h9 => h9) rfl d_RM_noDepth_6 ?_
    refine lv_icmp_lt (tgt := 16) hx hb d_RM_noDepth_9 (by decide) (fun c2 => ?_) (fun c2 => ?_)
    · rw [if_pos c2] at hf
      refine lv_iconst (v := 0) hx hb d_RM_noDepth_16 (by decide) ?_
      rw [← hQ]
      have hz : (0 : Int32) = 0 ∨ (0 : Int32) = 1 := Or.inl rfl
      exact W.zret (v := (0 : Int32)) hx hb hr (zb_n hz) (fun t ht hW => ⟨⟨(0 : Int32), (), rfl, ⟨hf.symm, hz⟩, by rw [ht]; exact hP, va_K.moved hW.alike hK⟩, hS.F ht⟩) hS.2.2 d_RM_noDepth_17
    · rw [if_neg c2] at hf
      refine lv_iconst (v := 1) hx hb d_RM_noDepth_12 (by decide) ?_
      refine lv_goto (tgt := 17) hx hb d_RM_noDepth_13 (by decide) ?_
      rw [← hQ]
      have hz : (1 : Int32) = 0 ∨ (1 : Int32) = 1 := Or.inr rfl
      exact W.zret (v := (1 : Int32)) hx hb hr (zb_n hz) (fun t ht hW => ⟨⟨(1 : Int32), (), rfl, ⟨hf.symm, hz⟩, by rw [ht]; exact hP, va_K.moved hW.alike hK⟩, hS.F ht⟩) hS.2.2 d_RM_noDepth_17
set_option maxHeartbeats 4000000 in
set_option maxRecDepth 100000 in
theorem c_RM_bar (l : Launch) (D : va_G) (cA : Nat → ClassId) (ad : Nat → Nat) (hI : InjA ad) (sz : Nat) (a1 : Int32) (a2 : Int32) (a3 : Int32) (S : SS) (hs : f_RM_bar a1 a2 a3 S ≠ none) : Met l y_RM_bar w_RM_bar ({ frames := 1, cells := 0, slots := 0, locals := 21 }) (va_Pc [.ref (ad 33), .int a1, .int a2, .int a3] (fun U => U.heap.size = sz ∧ va_P D vwCl (X cA ad S) U.heap ∧ va_K D vwCl (tysX cA) U)) (va_Qi (fun (r : Int32) (u : SS) => f_RM_bar a1 a2 a3 S = some (r, u) ∧ (r = 0 ∨ r = 1)) (fun (u : SS) t => va_P D vwCl (X cA ad u) t.heap ∧ va_K D vwCl (tysX cA) t) (AS ad sz)) 0 0 (AS ad sz) := by
  refine Met.ofW (cc := b_RM_bar) (maxL := 5) (ret := (some .boolean)) (by decide) rfl ?_
  intro p e s m args below meth c s₁ B hml hv
  obtain ⟨rfl, hsz, hP, hK⟩ := hv
  have hx := B.exec
  have hb := B.bytes
  have hr := B.returns
  have hts := atoms_spec (ws := w_RM_bar) B.pre
  have ht := fun w h => hts w (List.mem_cons_of_mem _ h)
  have hown : s.vm.findClass R_RM = some m.cls := findClass_of_methodNamed B.named
  have hlocks := B.notSynchronized
  subst hsz
  have hAd : ∀ q, q < NP → AS ad s.heap.size (ad q) := fun q h => Or.inl ⟨q, h, rfl⟩
  have hA : ∀ q : Nat, s.heap.size ≤ q → AS ad s.heap.size q := fun q h => Or.inr h
  have hAS : ∀ z : Nat, s.heap.size ≤ z → ∀ q : Nat, AS ad z q → AS ad s.heap.size q := fun z h q hq => hq.elim Or.inl (fun g => Or.inr (Nat.le_trans h g))
  generalize hAe : AS ad s.heap.size = A at hAd hA hAS ⊢
  have hS : va_S A s.heap s.heap [] := va_S.rf
  have hl := lv_entry ([.ref (ad 33), .int a1, .int a2, .int a3]) (n := 5) (Nat.le_of_ble_eq_true rfl)
  rw [lg_entry_eq]
  generalize (lg_sl ([.ref (ad 33), .int a1, .int a2, .int a3]) ++ List.replicate (5 - (lg_sl ([.ref (ad 33), .int a1, .int a2, .int a3])).length) Slot.unset).toArray = ls at hl ⊢
  have hl : lv_has ls 5 [(0, .ref (ad 33)), (1, .int a1), (2, .int a2), (3, .int a3)] := hl
  have hf := (f_RM_bar_s a1 a2 a3 S).symm
  generalize hQ : MQ below _ _ s _ _ _ = Q
  refine lv_aload_n hx hb d_RM_bar_0 rfl (lv_at hl 0 rfl) ?_
  refine lv_aload_n hx hb d_RM_bar_1 rfl (lv_at hl 0 rfl) ?_
  refine lv_iload_n hx hb d_RM_bar_2 rfl (lv_at hl 1 rfl) ?_
  refine va_calli (va_runV (As := [.int a1]) (rest := [.ref (ad 33)]) ⟨hx, hb, hml, hown, ht⟩ (c_RM_noDepth l D cA ad hI s.heap.size a1 S (fun hn => hs (by rw [hn] at hf; exact hf.symm))) (cwV 1 ht (good_G (gV mM_RM_60 mI_RM_noDepth mV_RM_noDepth mN_RM mk_RM_noDepth)) rfl rfl rfl (by decide +kernel) ⟨Nat.le_of_ble_eq_true rfl, Nat.le_of_ble_eq_true rfl⟩) ⟨fun a U g mk q => ⟨q.1, q.2.1, q.2.2.1, va_K.moved (u := U) (U := U.calling g mk a) (Vm.Alike.refl U.vm) q.2.2.2⟩, va_recv hK hP (ci := 5) (q0 := 33) rfl Xa_33, fun U hU hW => ⟨rfl, by rw [hU], by rw [hU]; exact hP, va_K.moved hW.alike hK⟩⟩ rfl rfl hl.1 rfl (lv_room (Nat.le_of_ble_eq_true rfl)) d_RM_bar_3 ⟨Nat.le_of_ble_eq_true rfl, Nat.le_of_ble_eq_true rfl⟩) hS (fun q _ h => hAS _ hS.1 q h) (fun q h => hAS _ hS.1 q h) (fun r1 _ t H locs ht9 hvm hw hB hz1 hk1 hS => ?_)
  obtain ⟨hP, hK9⟩ := hB
  rw [ht9] at hP
  obtain ⟨hw, hz1⟩ := hw
  rw [hw, Option.bind_some] at hf
  refine lv_if_ne (tgt := 17) hx hb d_RM_bar_6 (by decide) (fun c1 => ?_) (fun c1 => ?_)
  · rw [if_neg c1] at hf
    refine lv_iconst (v := 1) hx hb d_RM_bar_17 (by decide) ?_
    refine lv_goto (tgt := 22) hx hb d_RM_bar_18 (by decide) ?_
    refine va_put (D := D) (ci := 5) (v := .int (1 : Int32)) (ty := .int) (C := R_RM) (T := T_RM) (N := 13) hx hb ht i_RM t_RM t_RM_ok n_RM hown hK hP (X_D hI hAd) hS 33 Xa_33 rfl 0 (by decide) (ht _ mF_RM_36) (fun _ h9 => h9) rfl (by decide +kernel) rfl rfl (Nat.le_of_ble_eq_true rfl) d_RM_bar_22 (fun H locs hP _ hS => ?_)
    replace hP := X_putI (by decide) hP rfl
    refine lv_aload_n hx hb d_RM_bar_25 rfl (lv_at hl 0 rfl) ?_
    refine va_get (D := D) (ci := 5) (v := .int (1 : Int32)) (C := R_RM) (T := T_RM) (N := 13) hx hb ht i_RM hown hK hP 33 Xa_33 rfl 0 (by decide) (ht _ mF_RM_36) (fun _ h9 => h9) rfl d_RM_bar_26 ?_
    refine lv_if_le (tgt := 34) hx hb d_RM_bar_29 (by decide) (fun c2 => absurd c2 (by decide)) (fun c2 => ?_)
    refine lv_iconst (v := 0) hx hb d_RM_bar_32 (by decide) ?_
    rw [← hQ]
    have hz : (0 : Int32) = 0 ∨ (0 : Int32) = 1 := Or.inl rfl
    exact W.zret (v := (0 : Int32)) hx hb hr (zb_n hz) (fun t ht hW => ⟨⟨(0 : Int32), wI S 33 0 (1 : Int32), rfl, ⟨hf.symm, hz⟩, by rw [ht]; exact hP, va_K.moved hW.alike hK⟩, hS.F ht⟩) hS.2.2 d_RM_bar_33
  · rw [if_pos c1] at hf
    refine lv_aload_n hx hb d_RM_bar_9 rfl (lv_at hl 0 rfl) ?_
    refine lv_iload_n hx hb d_RM_bar_10 rfl (lv_at hl 2 rfl) ?_
    refine va_calli (va_runV (As := [.int a2]) (rest := [.ref (ad 33)]) ⟨hx, hb, hml, hown, ht⟩ (c_RM_noDepth l D cA ad hI H.size a2 S (fun hn => hs (by rw [hn] at hf; exact hf.symm))) (cwV 1 ht (good_G (gV mM_RM_60 mI_RM_noDepth mV_RM_noDepth mN_RM mk_RM_noDepth)) rfl rfl rfl (by decide +kernel) ⟨Nat.le_of_ble_eq_true rfl, Nat.le_of_ble_eq_true rfl⟩) ⟨fun a U g mk q => ⟨q.1, q.2.1, q.2.2.1, va_K.moved (u := U) (U := U.calling g mk a) (Vm.Alike.refl U.vm) q.2.2.2⟩, va_recv hK hP (ci := 5) (q0 := 33) rfl Xa_33, fun U hU hW => ⟨rfl, by rw [hU], by rw [hU]; exact hP, va_K.moved hW.alike hK⟩⟩ rfl rfl hl.1 rfl (lv_room (Nat.le_of_ble_eq_true rfl)) d_RM_bar_11 ⟨Nat.le_of_ble_eq_true rfl, Nat.le_of_ble_eq_true rfl⟩) hS (fun q _ h => hAS _ hS.1 q h) (fun q h => hAS _ hS.1 q h) (fun r2 _ t H locs ht9 hvm hw hB hz1 hk1 hS => ?_)
    obtain ⟨hP, hK9⟩ := hB
    rw [ht9] at hP
    obtain ⟨hw, hz2⟩ := hw
    rw [hw, Option.bind_some] at hf
    refine lv_if_eq (tgt := 21) hx hb d_RM_bar_14 (by decide) (fun c3 => ?_) (fun c3 => ?_)
    · rw [if_pos c3] at hf
      refine lv_iconst (v := 0) hx hb d_RM_bar_21 (by decide) ?_
      refine va_put (D := D) (ci := 5) (v := .int (0 : Int32)) (ty := .int) (C := R_RM) (T := T_RM) (N := 13) hx hb ht i_RM t_RM t_RM_ok n_RM hown hK hP (X_D hI hAd) hS 33 Xa_33 rfl 0 (by decide) (ht _ mF_RM_36) (fun _ h9 => h9) rfl (by decide +kernel) rfl rfl (Nat.le_of_ble_eq_true rfl) d_RM_bar_22 (fun H locs hP _ hS => ?_)
      replace hP := X_putI (by decide) hP rfl
      refine lv_aload_n hx hb d_RM_bar_25 rfl (lv_at hl 0 rfl) ?_
      refine va_get (D := D) (ci := 5) (v := .int (0 : Int32)) (C := R_RM) (T := T_RM) (N := 13) hx hb ht i_RM hown hK hP 33 Xa_33 rfl 0 (by decide) (ht _ mF_RM_36) (fun _ h9 => h9) rfl d_RM_bar_26 ?_
      refine lv_if_le (tgt := 34) hx hb d_RM_bar_29 (by decide) (fun c4 => ?_) (fun c4 => absurd c4 (by decide))
      refine lv_aload_n hx hb d_RM_bar_34 rfl (lv_at hl 0 rfl) ?_
      refine va_get (D := D) (ci := 5) (v := .ref (ad 35)) (C := R_RM) (T := T_RM) (N := 13) hx hb ht i_RM hown hK hP 33 Xa_33 rfl 8 (by decide) (ht _ mF_RM_20) (fun _ h9 => h9) rfl d_RM_bar_35 ?_
      refine lv_bipush (v := 8) hx hb d_RM_bar_38 (by decide) ?_
      refine lv_iload_n hx hb d_RM_bar_40 rfl (lv_at hl 1 rfl) ?_
      refine lv_imul hx hb d_RM_bar_41 ?_
      refine lv_iload_n hx hb d_RM_bar_42 rfl (lv_at hl 2 rfl) ?_
      refine lv_iadd hx hb d_RM_bar_43 ?_
      by_cases b5 : oob (((8 : Int32) * a1) + a2) 64
      · rw [if_pos b5] at hf; exact absurd hf.symm hs
      rw [if_neg b5] at hf
      refine va_zald (f := S.1 35) hx hb hK hP 35 4 Xa_35 rfl b5 d_RM_bar_44 ?_
      refine lv_istore (lv' := [(4, .int (S.1 35 (((8 : Int32) * a1) + a2).toNatClampNeg)), (0, .ref (ad 33)), (1, .int a1), (2, .int a2), (3, .int a3)]) hx hb d_RM_bar_45 hl (by decide) rfl (fun ls hl => ?_)
      refine lv_aload_n hx hb d_RM_bar_47 rfl (lv_at hl 1 rfl) ?_
      refine va_get (D := D) (ci := 5) (v := .ref (ad 35)) (C := R_RM) (T := T_RM) (N := 13) hx hb ht i_RM hown hK hP 33 Xa_33 rfl 8 (by decide) (ht _ mF_RM_20) (fun _ h9 => h9) rfl d_RM_bar_48 ?_
      refine lv_bipush (v := 8) hx hb d_RM_bar_51 (by decide) ?_
      refine lv_iload_n hx hb d_RM_bar_53 rfl (lv_at hl 2 rfl) ?_
      refine lv_imul hx hb d_RM_bar_54 ?_
      refine lv_iload_n hx hb d_RM_bar_55 rfl (lv_at hl 3 rfl) ?_
      refine lv_iadd hx hb d_RM_bar_56 ?_
      refine lv_iload_n hx hb d_RM_bar_57 rfl (lv_at hl 4 rfl) ?_
      refine va_zast hx hb hK hP (X_D hI hAd) hS 35 4 Xa_35 rfl b5 d_RM_bar_58 (fun H locs hP _ hS => ?_)
      replace hP := X_stI (by decide) Xc_35 hP
      refine lv_aload_n hx hb d_RM_bar_59 rfl (lv_at hl 1 rfl) ?_
      refine lv_iconst (v := 0) hx hb d_RM_bar_60 (by decide) ?_
      refine va_put (D := D) (ci := 5) (v := .int (0 : Int32)) (ty := .boolean) (C := R_RM) (T := T_RM) (N := 13) hx hb ht i_RM t_RM t_RM_ok n_RM hown hK hP (X_D hI hAd) hS 33 Xa_33 rfl 9 (by decide) (ht _ mF_RM_45) (fun _ h9 => h9) rfl (by decide +kernel) rfl rfl (Nat.le_of_ble_eq_true rfl) d_RM_bar_61 (fun H locs hP _ hS => ?_)
      replace hP := X_putI (by decide) hP rfl
      refine lv_iload hx hb d_RM_bar_64 (lv_at hl 0 rfl) ?_
      by_cases hz : (S.1 35 (((8 : Int32) * a1) + a2).toNatClampNeg) = 0 ∨ (S.1 35 (((8 : Int32) * a1) + a2).toNatClampNeg) = 1
      case neg => rw [if_neg hz] at hf; exact absurd hf.symm hs
      rw [if_pos hz] at hf
      rw [← hQ]
      exact W.zret (v := S.1 35 (((8 : Int32) * a1) + a2).toNatClampNeg) hx hb hr (zb_n hz) (fun t ht hW => ⟨⟨S.1 35 (((8 : Int32) * a1) + a2).toNatClampNeg, wI (wI (wI S 33 0 (0 : Int32)) 35 (((8 : Int32) * a1) + a2).toNatClampNeg (vp_nar .boolean a3)) 33 9 (0 : Int32), rfl, ⟨hf.symm, hz⟩, by rw [ht]; exact hP, va_K.moved hW.alike hK⟩, hS.F ht⟩) hS.2.2 d_RM_bar_66
    · rw [if_neg c3] at hf
      refine lv_iconst (v := 1) hx hb d_RM_bar_17 (by decide) ?_
      refine lv_goto (tgt := 22) hx hb d_RM_bar_18 (by decide) ?_
      refine va_put (D := D) (ci := 5) (v := .int (1 : Int32)) (ty := .int) (C := R_RM) (T := T_RM) (N := 13) hx hb ht i_RM t_RM t_RM_ok n_RM hown hK hP (X_D hI hAd) hS 33 Xa_33 rfl 0 (by decide) (ht _ mF_RM_36) (fun _ h9 => h9) rfl (by decide +kernel) rfl rfl (Nat.le_of_ble_eq_true rfl) d_RM_bar_22 (fun H locs hP _ hS => ?_)
      replace hP := X_putI (by decide) hP rfl
      refine lv_aload_n hx hb d_RM_bar_25 rfl (lv_at hl 0 rfl) ?_
      refine va_get (D := D) (ci := 5) (v := .int (1 : Int32)) (C := R_RM) (T := T_RM) (N := 13) hx hb ht i_RM hown hK hP 33 Xa_33 rfl 0 (by decide) (ht _ mF_RM_36) (fun _ h9 => h9) rfl d_RM_bar_26 ?_
      refine lv_if_le (tgt := 34) hx hb d_RM_bar_29 (by decide) (fun c6 => absurd c6 (by decide)) (fun c6 => ?_)
      refine lv_iconst (v := 0) hx hb d_RM_bar_32 (by decide) ?_
      rw [← hQ]
      have hz : (0 : Int32) = 0 ∨ (0 : Int32) = 1 := Or.inl rfl
      exact W.zret (v := (0 : Int32)) hx hb hr (zb_n hz) (fun t ht hW => ⟨⟨(0 : Int32), wI S 33 0 (1 : Int32), rfl, ⟨hf.symm, hz⟩, by rw [ht]; exact hP, va_K.moved hW.alike hK⟩, hS.F ht⟩) hS.2.2 d_RM_bar_33
set_option maxHeartbeats 4000000 in
set_option maxRecDepth 100000 in
theorem c_RM_top (l : Launch) (D : va_G) (cA : Nat → ClassId) (ad : Nat → Nat) (hI : InjA ad) (sz : Nat) (a1 : Int32) (S : SS) (hs : f_RM_top a1 S ≠ none) : Met l y_RM_top w_RM_top ({ frames := 1, cells := 0, slots := 0, locals := 22 }) (va_Pc [.ref (ad 33), .int a1] (fun U => U.heap.size = sz ∧ va_P D vwCl (X cA ad S) U.heap ∧ va_K D vwCl (tysX cA) U)) (va_Qi (fun (r : Int32) (u : SS) => f_RM_top a1 S = some (r, u)) (fun (u : SS) t => va_P D vwCl (X cA ad u) t.heap ∧ va_K D vwCl (tysX cA) t) (AS ad sz)) 0 0 (AS ad sz) := by
  refine Met.ofW (cc := b_RM_top) (maxL := 3) (ret := (some .int)) (by decide) rfl ?_
  intro p e s m args below meth c s₁ B hml hv
  obtain ⟨rfl, hsz, hP, hK⟩ := hv
  have hx := B.exec
  have hb := B.bytes
  have hr := B.returns
  have hts := atoms_spec (ws := w_RM_top) B.pre
  have ht := fun w h => hts w (List.mem_cons_of_mem _ h)
  have hown : s.vm.findClass R_RM = some m.cls := findClass_of_methodNamed B.named
  have hlocks := B.notSynchronized
  subst hsz
  have hAd : ∀ q, q < NP → AS ad s.heap.size (ad q) := fun q h => Or.inl ⟨q, h, rfl⟩
  have hA : ∀ q : Nat, s.heap.size ≤ q → AS ad s.heap.size q := fun q h => Or.inr h
  have hAS : ∀ z : Nat, s.heap.size ≤ z → ∀ q : Nat, AS ad z q → AS ad s.heap.size q := fun z h q hq => hq.elim Or.inl (fun g => Or.inr (Nat.le_trans h g))
  generalize hAe : AS ad s.heap.size = A at hAd hA hAS ⊢
  have hS : va_S A s.heap s.heap [] := va_S.rf
  have hl := lv_entry ([.ref (ad 33), .int a1]) (n := 3) (Nat.le_of_ble_eq_true rfl)
  rw [lg_entry_eq]
  generalize (lg_sl ([.ref (ad 33), .int a1]) ++ List.replicate (3 - (lg_sl ([.ref (ad 33), .int a1])).length) Slot.unset).toArray = ls at hl ⊢
  have hl : lv_has ls 3 [(0, .ref (ad 33)), (1, .int a1)] := hl
  have hf := (f_RM_top_s a1 S).symm
  generalize hQ : MQ below _ _ s _ _ _ = Q
  refine lv_aload_n hx hb d_RM_top_0 rfl (lv_at hl 0 rfl) ?_
  refine lv_iload_n hx hb d_RM_top_1 rfl (lv_at hl 1 rfl) ?_
  refine lv_iconst (v := 1) hx hb d_RM_top_2 (by decide) ?_
  refine lv_bipush (v := 8) hx hb d_RM_top_3 (by decide) ?_
  refine va_calli (va_runS (As := [.int a1, .int (1 : Int32), .int (8 : Int32)]) (rest := [.ref (ad 33)]) ⟨hx, hb, hml, hown, ht⟩ (c_RM_isIn l D cA ad hI s.heap.size a1 (1 : Int32) (8 : Int32) S (fun hn => hs (by rw [hn] at hf; exact hf.symm))) (va_cwS 3 ht (good_G (gS mM_RM_56 mS_RM_isIn mN_RM mk_RM_isIn)) rfl rfl rfl (by decide +kernel) ⟨Nat.le_of_ble_eq_true rfl, Nat.le_of_ble_eq_true rfl⟩) ⟨fun a U g mk q => ⟨q.1, q.2.1, q.2.2.1, va_K.moved (u := U) (U := U.calling g mk a) (Vm.Alike.refl U.vm) q.2.2.2⟩, fun U hU hW => ⟨rfl, by rw [hU], by rw [hU]; exact hP, va_K.moved hW.alike hK⟩⟩ rfl rfl hl.1 rfl (lv_room (Nat.le_of_ble_eq_true rfl)) d_RM_top_5 ⟨Nat.le_of_ble_eq_true rfl, Nat.le_of_ble_eq_true rfl⟩) hS (fun q _ h => hAS _ hS.1 q h) (fun q h => hAS _ hS.1 q h) (fun r1 _ t H locs ht9 hvm hw hB hz1 hk1 hS => ?_)
  obtain ⟨hP, hK9⟩ := hB
  rw [ht9] at hP
  obtain ⟨hw, hz1⟩ := hw
  rw [hw, Option.bind_some] at hf
  refine lv_if_eq (tgt := 15) hx hb d_RM_top_8 (by decide) (fun c1 => ?_) (fun c1 => ?_)
  · rw [if_pos c1] at hf
    refine lv_iconst (v := 1) hx hb d_RM_top_15 (by decide) ?_
    refine va_put (D := D) (ci := 5) (v := .int (1 : Int32)) (ty := .int) (C := R_RM) (T := T_RM) (N := 13) hx hb ht i_RM t_RM t_RM_ok n_RM hown hK hP (X_D hI hAd) hS 33 Xa_33 rfl 0 (by decide) (ht _ mF_RM_36) (fun _ h9 => h9) rfl (by decide +kernel) rfl rfl (Nat.le_of_ble_eq_true rfl) d_RM_top_16 (fun H locs hP _ hS => ?_)
    replace hP := X_putI (by decide) hP rfl
    refine lv_aload_n hx hb d_RM_top_19 rfl (lv_at hl 0 rfl) ?_
    refine va_get (D := D) (ci := 5) (v := .int (1 : Int32)) (C := R_RM) (T := T_RM) (N := 13) hx hb ht i_RM hown hK hP 33 Xa_33 rfl 0 (by decide) (ht _ mF_RM_36) (fun _ h9 => h9) rfl d_RM_top_20 ?_
    refine lv_if_le (tgt := 28) hx hb d_RM_top_23 (by decide) (fun c2 => absurd c2 (by decide)) (fun c2 => ?_)
    refine lv_iconst (v := 0) hx hb d_RM_top_26 (by decide) ?_
    rw [← hQ]
    exact W.iret (v := (0 : Int32)) hx hb hr (fun t ht hW => ⟨⟨(0 : Int32), wI S 33 0 (1 : Int32), rfl, hf.symm, by rw [ht]; exact hP, va_K.moved hW.alike hK⟩, hS.F ht⟩) hS.2.2 d_RM_top_27
  · rw [if_neg c1] at hf
    refine lv_iconst (v := 0) hx hb d_RM_top_11 (by decide) ?_
    refine lv_goto (tgt := 16) hx hb d_RM_top_12 (by decide) ?_
    refine va_put (D := D) (ci := 5) (v := .int (0 : Int32)) (ty := .int) (C := R_RM) (T := T_RM) (N := 13) hx hb ht i_RM t_RM t_RM_ok n_RM hown hK hP (X_D hI hAd) hS 33 Xa_33 rfl 0 (by decide) (ht _ mF_RM_36) (fun _ h9 => h9) rfl (by decide +kernel) rfl rfl (Nat.le_of_ble_eq_true rfl) d_RM_top_16 (fun H locs hP _ hS => ?_)
    replace hP := X_putI (by decide) hP rfl
    refine lv_aload_n hx hb d_RM_top_19 rfl (lv_at hl 0 rfl) ?_
    refine va_get (D := D) (ci := 5) (v := .int (0 : Int32)) (C := R_RM) (T := T_RM) (N := 13) hx hb ht i_RM hown hK hP 33 Xa_33 rfl 0 (by decide) (ht _ mF_RM_36) (fun _ h9 => h9) rfl d_RM_top_20 ?_
    refine lv_if_le (tgt := 28) hx hb d_RM_top_23 (by decide) (fun c3 => ?_) (fun c3 => absurd c3 (by decide))
    refine lv_aload_n hx hb d_RM_top_28 rfl (lv_at hl 0 rfl) ?_
    refine va_get (D := D) (ci := 5) (v := .int (S.1 33 7)) (C := R_RM) (T := T_RM) (N := 13) hx hb ht i_RM hown hK hP 33 Xa_33 rfl 7 (by decide) (ht _ mF_RM_17) (fun _ h9 => h9) rfl d_RM_top_29 ?_
    refine lv_istore_n (lv' := [(2, .int (S.1 33 7)), (0, .ref (ad 33)), (1, .int a1)]) hx hb d_RM_top_32 rfl hl (by decide) rfl (fun ls hl => ?_)
    refine lv_aload_n hx hb d_RM_top_33 rfl (lv_at hl 1 rfl) ?_
    refine lv_iload_n hx hb d_RM_top_34 rfl (lv_at hl 2 rfl) ?_
    refine va_put (D := D) (ci := 5) (v := .int a1) (ty := .int) (C := R_RM) (T := T_RM) (N := 13) hx hb ht i_RM t_RM t_RM_ok n_RM hown hK hP (X_D hI hAd) hS 33 Xa_33 rfl 7 (by decide) (ht _ mF_RM_17) (fun _ h9 => h9) rfl (by decide +kernel) rfl rfl (Nat.le_of_ble_eq_true rfl) d_RM_top_35 (fun H locs hP _ hS => ?_)
    replace hP := X_putI (by decide) hP rfl
    refine lv_aload_n hx hb d_RM_top_38 rfl (lv_at hl 1 rfl) ?_
    refine lv_iconst (v := 0) hx hb d_RM_top_39 (by decide) ?_
    refine va_put (D := D) (ci := 5) (v := .int (0 : Int32)) (ty := .boolean) (C := R_RM) (T := T_RM) (N := 13) hx hb ht i_RM t_RM t_RM_ok n_RM hown hK hP (X_D hI hAd) hS 33 Xa_33 rfl 9 (by decide) (ht _ mF_RM_45) (fun _ h9 => h9) rfl (by decide +kernel) rfl rfl (Nat.le_of_ble_eq_true rfl) d_RM_top_40 (fun H locs hP _ hS => ?_)
    replace hP := X_putI (by decide) hP rfl
    refine lv_iload_n hx hb d_RM_top_43 rfl (lv_at hl 0 rfl) ?_
    rw [← hQ]
    exact W.iret (v := S.1 33 7) hx hb hr (fun t ht hW => ⟨⟨S.1 33 7, wI (wI (wI S 33 0 (0 : Int32)) 33 7 a1) 33 9 (0 : Int32), rfl, hf.symm, by rw [ht]; exact hP, va_K.moved hW.alike hK⟩, hS.F ht⟩) hS.2.2 d_RM_top_44
set_option maxHeartbeats 4000000 in
set_option maxRecDepth 100000 in
theorem c_RM_mayStand (l : Launch) (D : va_G) (cA : Nat → ClassId) (ad : Nat → Nat) (hI : InjA ad) (sz : Nat) (a1 : Int32) (a2 : Int32) (S : SS) (hs : f_RM_mayStand a1 a2 S ≠ none) : Met l y_RM_mayStand w_RM_mayStand ({ frames := 0, cells := 0, slots := 0, locals := 0 }) (va_Pc [.ref (ad 33), .int a1, .int a2] (fun U => U.heap.size = sz ∧ va_P D vwCl (X cA ad S) U.heap ∧ va_K D vwCl (tysX cA) U)) (va_Qi (fun (r : Int32) (_ : Unit) => f_RM_mayStand a1 a2 S = some r ∧ (r = 0 ∨ r = 1)) (fun (_ : Unit) t => va_P D vwCl (X cA ad S) t.heap ∧ va_K D vwCl (tysX cA) t) (AS ad sz)) 0 0 (AS ad sz) := by
  refine Met.ofW (cc := b_RM_mayStand) (maxL := 4) (ret := (some .boolean)) (by decide) rfl ?_
  intro p e s m args below meth c s₁ B hml hv
  obtain ⟨rfl, hsz, hP, hK⟩ := hv
  have hx := B.exec
  have hb := B.bytes
  have hr := B.returns
  have hts := atoms_spec (ws := w_RM_mayStand) B.pre
  have ht := fun w h => hts w (List.mem_cons_of_mem _ h)
  have hown : s.vm.findClass R_RM = some m.cls := findClass_of_methodNamed B.named
  have hlocks := B.notSynchronized
  subst hsz
  have hAd : ∀ q, q < NP → AS ad s.heap.size (ad q) := fun q h => Or.inl ⟨q, h, rfl⟩
  have hA : ∀ q : Nat, s.heap.size ≤ q → AS ad s.heap.size q := fun q h => Or.inr h
  have hAS : ∀ z : Nat, s.heap.size ≤ z → ∀ q : Nat, AS ad z q → AS ad s.heap.size q := fun z h q hq => hq.elim Or.inl (fun g => Or.inr (Nat.le_trans h g))
  generalize hAe : AS ad s.heap.size = A at hAd hA hAS ⊢
  have hS : va_S A s.heap s.heap [] := va_S.rf
  have hl := lv_entry ([.ref (ad 33), .int a1, .int a2]) (n := 4) (Nat.le_of_ble_eq_true rfl)
  rw [lg_entry_eq]
  generalize (lg_sl ([.ref (ad 33), .int a1, .int a2]) ++ List.replicate (4 - (lg_sl ([.ref (ad 33), .int a1, .int a2])).length) Slot.unset).toArray = ls at hl ⊢
  have hl : lv_has ls 4 [(0, .ref (ad 33)), (1, .int a1), (2, .int a2)] := hl
  have hf := (f_RM_mayStand_s a1 a2 S).symm
  generalize hQ : MQ below _ _ s _ _ _ = Q
  refine lv_iload_n hx hb d_RM_mayStand_0 rfl (lv_at hl 1 rfl) ?_
  refine lv_iload_n hx hb d_RM_mayStand_1 rfl (lv_at hl 2 rfl) ?_
  refine lv_icmp_le (tgt := 11) hx hb d_RM_mayStand_2 (by decide) (fun c1 => ?_) (fun c1 => ?_)
  · rw [if_pos c1] at hf
    refine lv_iload_n hx hb d_RM_mayStand_11 rfl (lv_at hl 2 rfl) ?_
    refine lv_iload_n hx hb d_RM_mayStand_12 rfl (lv_at hl 1 rfl) ?_
    refine lv_isub hx hb d_RM_mayStand_13 ?_
    refine lv_istore_n (lv' := [(3, .int (a2 - a1)), (0, .ref (ad 33)), (1, .int a1), (2, .int a2)]) hx hb d_RM_mayStand_14 rfl hl (by decide) rfl (fun ls hl => ?_)
    refine lv_iload_n hx hb d_RM_mayStand_15 rfl (lv_at hl 0 rfl) ?_
    refine lv_aload_n hx hb d_RM_mayStand_16 rfl (lv_at hl 1 rfl) ?_
    refine va_get (D := D) (ci := 5) (v := .int (S.1 33 6)) (C := R_RM) (T := T_RM) (N := 13) hx hb ht i_RM hown hK hP 33 Xa_33 rfl 6 (by decide) (ht _ mF_RM_13) (fun _ h9 => h9) rfl d_RM_mayStand_17 ?_
    refine lv_icmp_gt (tgt := 41) hx hb d_RM_mayStand_20 (by decide) (fun c2 => ?_) (fun c2 => ?_)
    · rw [if_pos c2] at hf
      refine lv_iconst (v := 0) hx hb d_RM_mayStand_41 (by decide) ?_
      rw [← hQ]
      have hz : (0 : Int32) = 0 ∨ (0 : Int32) = 1 := Or.inl rfl
      exact W.zret (v := (0 : Int32)) hx hb hr (zb_n hz) (fun t ht hW => ⟨⟨(0 : Int32), (), rfl, ⟨hf.symm, hz⟩, by rw [ht]; exact hP, va_K.moved hW.alike hK⟩, hS.F ht⟩) hS.2.2 d_RM_mayStand_42
    · rw [if_neg c2] at hf
      refine lv_aload_n hx hb d_RM_mayStand_23 rfl (lv_at hl 1 rfl) ?_
      refine va_get (D := D) (ci := 5) (v := .ref (ad 35)) (C := R_RM) (T := T_RM) (N := 13) hx hb ht i_RM hown hK hP 33 Xa_33 rfl 8 (by decide) (ht _ mF_RM_20) (fun _ h9 => h9) rfl d_RM_mayStand_24 ?_
      refine lv_bipush (v := 8) hx hb d_RM_mayStand_27 (by decide) ?_
      refine lv_iload_n hx hb d_RM_mayStand_29 rfl (lv_at hl 2 rfl) ?_
      refine lv_imul hx hb d_RM_mayStand_30 ?_
      refine lv_iload_n hx hb d_RM_mayStand_31 rfl (lv_at hl 3 rfl) ?_
      refine lv_iadd hx hb d_RM_mayStand_32 ?_
      by_cases b3 : oob (((8 : Int32) * a1) + a2) 64
      · rw [if_pos b3] at hf; exact absurd hf.symm hs
      rw [if_neg b3] at hf
      refine va_zald (f := S.1 35) hx hb hK hP 35 4 Xa_35 rfl b3 d_RM_mayStand_33 ?_
      refine lv_if_ne (tgt := 41) hx hb d_RM_mayStand_34 (by decide) (fun c4 => ?_) (fun c4 => ?_)
      · rw [if_neg c4] at hf
        refine lv_iconst (v := 0) hx hb d_RM_mayStand_41 (by decide) ?_
        rw [← hQ]
        have hz : (0 : Int32) = 0 ∨ (0 : Int32) = 1 := Or.inl rfl
        exact W.zret (v := (0 : Int32)) hx hb hr (zb_n hz) (fun t ht hW => ⟨⟨(0 : Int32), (), rfl, ⟨hf.symm, hz⟩, by rw [ht]; exact hP, va_K.moved hW.alike hK⟩, hS.F ht⟩) hS.2.2 d_RM_mayStand_42
      · rw [if_pos c4] at hf
        refine lv_iconst (v := 1) hx hb d_RM_mayStand_37 (by decide) ?_
        refine lv_goto (tgt := 42) hx hb d_RM_mayStand_38 (by decide) ?_
        rw [← hQ]
        have hz : (1 : Int32) = 0 ∨ (1 : Int32) = 1 := Or.inr rfl
        exact W.zret (v := (1 : Int32)) hx hb hr (zb_n hz) (fun t ht hW => ⟨⟨(1 : Int32), (), rfl, ⟨hf.symm, hz⟩, by rw [ht]; exact hP, va_K.moved hW.alike hK⟩, hS.F ht⟩) hS.2.2 d_RM_mayStand_42
  · rw [if_neg c1] at hf
    refine lv_iload_n hx hb d_RM_mayStand_5 rfl (lv_at hl 1 rfl) ?_
    refine lv_iload_n hx hb d_RM_mayStand_6 rfl (lv_at hl 2 rfl) ?_
    refine lv_isub hx hb d_RM_mayStand_7 ?_
    refine lv_goto (tgt := 14) hx hb d_RM_mayStand_8 (by decide) ?_
    refine lv_istore_n (lv' := [(3, .int (a1 - a2)), (0, .ref (ad 33)), (1, .int a1), (2, .int a2)]) hx hb d_RM_mayStand_14 rfl hl (by decide) rfl (fun ls hl => ?_)
    refine lv_iload_n hx hb d_RM_mayStand_15 rfl (lv_at hl 0 rfl) ?_
    refine lv_aload_n hx hb d_RM_mayStand_16 rfl (lv_at hl 1 rfl) ?_
    refine va_get (D := D) (ci := 5) (v := .int (S.1 33 6)) (C := R_RM) (T := T_RM) (N := 13) hx hb ht i_RM hown hK hP 33 Xa_33 rfl 6 (by decide) (ht _ mF_RM_13) (fun _ h9 => h9) rfl d_RM_mayStand_17 ?_
    refine lv_icmp_gt (tgt := 41) hx hb d_RM_mayStand_20 (by decide) (fun c5 => ?_) (fun c5 => ?_)
    · rw [if_pos c5] at hf
      refine lv_iconst (v := 0) hx hb d_RM_mayStand_41 (by decide) ?_
      rw [← hQ]
      have hz : (0 : Int32) = 0 ∨ (0 : Int32) = 1 := Or.inl rfl
      exact W.zret (v := (0 : Int32)) hx hb hr (zb_n hz) (fun t ht hW => ⟨⟨(0 : Int32), (), rfl, ⟨hf.symm, hz⟩, by rw [ht]; exact hP, va_K.moved hW.alike hK⟩, hS.F ht⟩) hS.2.2 d_RM_mayStand_42
    · rw [if_neg c5] at hf
      refine lv_aload_n hx hb d_RM_mayStand_23 rfl (lv_at hl 1 rfl) ?_
      refine va_get (D := D) (ci := 5) (v := .ref (ad 35)) (C := R_RM) (T := T_RM) (N := 13) hx hb ht i_RM hown hK hP 33 Xa_33 rfl 8 (by decide) (ht _ mF_RM_20) (fun _ h9 => h9) rfl d_RM_mayStand_24 ?_
      refine lv_bipush (v := 8) hx hb d_RM_mayStand_27 (by decide) ?_
      refine lv_iload_n hx hb d_RM_mayStand_29 rfl (lv_at hl 2 rfl) ?_
      refine lv_imul hx hb d_RM_mayStand_30 ?_
      refine lv_iload_n hx hb d_RM_mayStand_31 rfl (lv_at hl 3 rfl) ?_
      refine lv_iadd hx hb d_RM_mayStand_32 ?_
      by_cases b6 : oob (((8 : Int32) * a1) + a2) 64
      · rw [if_pos b6] at hf; exact absurd hf.symm hs
      rw [if_neg b6] at hf
      refine va_zald (f := S.1 35) hx hb hK hP 35 4 Xa_35 rfl b6 d_RM_mayStand_33 ?_
      refine lv_if_ne (tgt := 41) hx hb d_RM_mayStand_34 (by decide) (fun c7 => ?_) (fun c7 => ?_)
      · rw [if_neg c7] at hf
        refine lv_iconst (v := 0) hx hb d_RM_mayStand_41 (by decide) ?_
        rw [← hQ]
        have hz : (0 : Int32) = 0 ∨ (0 : Int32) = 1 := Or.inl rfl
        exact W.zret (v := (0 : Int32)) hx hb hr (zb_n hz) (fun t ht hW => ⟨⟨(0 : Int32), (), rfl, ⟨hf.symm, hz⟩, by rw [ht]; exact hP, va_K.moved hW.alike hK⟩, hS.F ht⟩) hS.2.2 d_RM_mayStand_42
      · rw [if_pos c7] at hf
        refine lv_iconst (v := 1) hx hb d_RM_mayStand_37 (by decide) ?_
        refine lv_goto (tgt := 42) hx hb d_RM_mayStand_38 (by decide) ?_
        rw [← hQ]
        have hz : (1 : Int32) = 0 ∨ (1 : Int32) = 1 := Or.inr rfl
        exact W.zret (v := (1 : Int32)) hx hb hr (zb_n hz) (fun t ht hW => ⟨⟨(1 : Int32), (), rfl, ⟨hf.symm, hz⟩, by rw [ht]; exact hP, va_K.moved hW.alike hK⟩, hS.F ht⟩) hS.2.2 d_RM_mayStand_42
set_option maxHeartbeats 4000000 in
set_option maxRecDepth 100000 in
theorem c_RM_isAlike (l : Launch) (D : va_G) (cA : Nat → ClassId) (ad : Nat → Nat) (hI : InjA ad) (sz : Nat) (a1 : Int32) (a2 : Int32) (S : SS) (hs : f_RM_isAlike a1 a2 S ≠ none) : Met l y_RM_isAlike w_RM_isAlike ({ frames := 0, cells := 0, slots := 0, locals := 0 }) (va_Pc [.ref (ad 33), .int a1, .int a2] (fun U => U.heap.size = sz ∧ va_P D vwCl (X cA ad S) U.heap ∧ va_K D vwCl (tysX cA) U)) (va_Qi (fun (r : Int32) (_ : Unit) => f_RM_isAlike a1 a2 S = some r ∧ (r = 0 ∨ r = 1)) (fun (_ : Unit) t => va_P D vwCl (X cA ad S) t.heap ∧ va_K D vwCl (tysX cA) t) (AS ad sz)) 0 0 (AS ad sz) := by
  refine Met.ofW (cc := b_RM_isAlike) (maxL := 5) (ret := (some .boolean)) (by decide) rfl ?_
  intro p e s m args below meth c s₁ B hml hv
  obtain ⟨rfl, hsz, hP, hK⟩ := hv
  have hx := B.exec
  have hb := B.bytes
  have hr := B.returns
  have hts := atoms_spec (ws := w_RM_isAlike) B.pre
  have ht := fun w h => hts w (List.mem_cons_of_mem _ h)
  have hown : s.vm.findClass R_RM = some m.cls := findClass_of_methodNamed B.named
  have hlocks := B.notSynchronized
  subst hsz
  have hAd : ∀ q, q < NP → AS ad s.heap.size (ad q) := fun q h => Or.inl ⟨q, h, rfl⟩
  have hA : ∀ q : Nat, s.heap.size ≤ q → AS ad s.heap.size q := fun q h => Or.inr h
  have hAS : ∀ z : Nat, s.heap.size ≤ z → ∀ q : Nat, AS ad z q → AS ad s.heap.size q := fun z h q hq => hq.elim Or.inl (fun g => Or.inr (Nat.le_trans h g))
  generalize hAe : AS ad s.heap.size = A at hAd hA hAS ⊢
  have hS : va_S A s.heap s.heap [] := va_S.rf
  have hl := lv_entry ([.ref (ad 33), .int a1, .int a2]) (n := 5) (Nat.le_of_ble_eq_true rfl)
  rw [lg_entry_eq]
  generalize (lg_sl ([.ref (ad 33), .int a1, .int a2]) ++ List.replicate (5 - (lg_sl ([.ref (ad 33), .int a1, .int a2])).length) Slot.unset).toArray = ls at hl ⊢
  have hl : lv_has ls 5 [(0, .ref (ad 33)), (1, .int a1), (2, .int a2)] := hl
  have hf := (f_RM_isAlike_s a1 a2 S).symm
  generalize hQ : MQ below _ _ s _ _ _ = Q
  refine lv_iconst (v := 1) hx hb d_RM_isAlike_0 (by decide) ?_
  refine lv_istore_n (lv' := [(3, .int (1 : Int32)), (0, .ref (ad 33)), (1, .int a1), (2, .int a2)]) hx hb d_RM_isAlike_1 rfl hl (by decide) rfl (fun ls hl => ?_)
  refine lv_iconst (v := 0) hx hb d_RM_isAlike_2 (by decide) ?_
  refine lv_istore (lv' := [(4, .int (0 : Int32)), (3, .int (1 : Int32)), (0, .ref (ad 33)), (1, .int a1), (2, .int a2)]) hx hb d_RM_isAlike_3 hl (by decide) rfl (fun ls hl => ?_)
  have lp5_1 : ∀ (n : Nat) (x3_1 : Int32) (x4_1 : Int32) (H : Heap) (locs : List Loc) (ls : Array Slot), va_P D vwCl (X cA ad S) H → va_S A s.heap H locs → lv_has ls 5 [(0, .ref (ad 33)), (1, .int a1), (2, .int a2), (3, .int x3_1), (4, .int x4_1)] → f_RM_isAlike_L5 a1 a2 n x3_1 x4_1 S ≠ none →
      (∀ v : Int32, f_RM_isAlike_L5 a1 a2 n x3_1 x4_1 S = some v → ∀ (H : Heap) (locs : List Loc) (ls : Array Slot), va_P D vwCl (X cA ad S) H → va_S A s.heap H locs → lv_has ls 5 [(0, .ref (ad 33)), (1, .int a1), (2, .int a2), (3, .int v)] → W p l e (headSpec w_RM_isAlike ({ frames := 0, cells := 0, slots := 0, locals := 0 })).room s m ([.ref (ad 33), .int a1, .int a2] : List Value).toArray below meth c H locs 0 0 Q (F0 m 61 ls [])) →
      W p l e (headSpec w_RM_isAlike ({ frames := 0, cells := 0, slots := 0, locals := 0 })).room s m ([.ref (ad 33), .int a1, .int a2] : List Value).toArray below meth c H locs 0 0 Q (F0 m 5 ls []) := by
    intro n
    induction n with
    | zero => intro x3_1 x4_1 H locs ls hP hS hl hs; exact absurd rfl hs
    | succ n ih =>
      intro x3_1 x4_1 H locs ls hP hS hl hs hexit
      have hf := (f_RM_isAlike_L5_s a1 a2 n x3_1 x4_1 S).symm
      refine lv_iload hx hb d_RM_isAlike_5 (lv_at hl 4 rfl) ?_
      refine lv_aload_n hx hb d_RM_isAlike_7 rfl (lv_at hl 0 rfl) ?_
      refine va_get (D := D) (ci := 5) (v := .int (S.1 33 1)) (C := R_RM) (T := T_RM) (N := 13) hx hb ht i_RM hown hK hP 33 Xa_33 rfl 1 (by decide) (ht _ mF_RM_30) (fun _ h9 => h9) rfl d_RM_isAlike_8 ?_
      refine lv_icmp_ge (tgt := 61) hx hb d_RM_isAlike_11 (by decide) (fun c1 => ?_) (fun c1 => ?_)
      · rw [if_pos c1] at hf
        exact hexit _ hf.symm _ _ _ hP hS (lv_sub hl [0, 1, 2, 3] rfl)
      · rw [if_neg c1] at hf
        refine lv_iload_n hx hb d_RM_isAlike_14 rfl (lv_at hl 3 rfl) ?_
        refine lv_if_eq (tgt := 53) hx hb d_RM_isAlike_15 (by decide) (fun c2 => ?_) (fun c2 => ?_)
        · rw [if_pos c2] at hf
          refine lv_iconst (v := 0) hx hb d_RM_isAlike_53 (by decide) ?_
          refine lv_istore_n (lv' := [(3, .int (0 : Int32)), (0, .ref (ad 33)), (1, .int a1), (2, .int a2), (4, .int x4_1)]) hx hb d_RM_isAlike_54 rfl hl (by decide) rfl (fun ls hl => ?_)
          refine lv_iinc (v := x4_1 + 1) (lv' := [(4, .int (x4_1 + 1)), (3, .int (0 : Int32)), (0, .ref (ad 33)), (1, .int a1), (2, .int a2)]) hx hb d_RM_isAlike_55 hl (k := 4) rfl rfl (by decide) rfl (fun ls hl => ?_)
          refine lv_goto (tgt := 5) hx hb d_RM_isAlike_58 (by decide) ?_
          exact ih (0 : Int32) (x4_1 + 1) _ _ _ hP hS (lv_sub hl [2, 3, 4, 1, 0] rfl) (fun hn => hs (hf.symm.trans hn)) (fun v ho => hexit v (hf.symm.trans ho))
        · rw [if_neg c2] at hf
          refine lv_aload_n hx hb d_RM_isAlike_18 rfl (lv_at hl 0 rfl) ?_
          refine va_get (D := D) (ci := 5) (v := .ref (ad 36)) (C := R_RM) (T := T_RM) (N := 13) hx hb ht i_RM hown hK hP 33 Xa_33 rfl 11 (by decide) (ht _ mF_RM_23) (fun _ h9 => h9) rfl d_RM_isAlike_19 ?_
          refine lv_aload_n hx hb d_RM_isAlike_22 rfl (lv_at hl 0 rfl) ?_
          refine va_get (D := D) (ci := 5) (v := .int (S.1 33 1)) (C := R_RM) (T := T_RM) (N := 13) hx hb ht i_RM hown hK hP 33 Xa_33 rfl 1 (by decide) (ht _ mF_RM_30) (fun _ h9 => h9) rfl d_RM_isAlike_23 ?_
          refine lv_iload_n hx hb d_RM_isAlike_26 rfl (lv_at hl 1 rfl) ?_
          refine lv_imul hx hb d_RM_isAlike_27 ?_
          refine lv_iload hx hb d_RM_isAlike_28 (lv_at hl 4 rfl) ?_
          refine lv_iadd hx hb d_RM_isAlike_30 ?_
          by_cases b3 : oob (((S.1 33 1) * a1) + x4_1) 48
          · rw [if_pos b3] at hf; exact absurd hf.symm hs
          rw [if_neg b3] at hf
          refine va_iald (f := S.1 36) hx hb hK hP 36 0 Xa_36 rfl b3 d_RM_isAlike_31 ?_
          refine lv_aload_n hx hb d_RM_isAlike_32 rfl (lv_at hl 0 rfl) ?_
          refine va_get (D := D) (ci := 5) (v := .ref (ad 36)) (C := R_RM) (T := T_RM) (N := 13) hx hb ht i_RM hown hK hP 33 Xa_33 rfl 11 (by decide) (ht _ mF_RM_23) (fun _ h9 => h9) rfl d_RM_isAlike_33 ?_
          refine lv_aload_n hx hb d_RM_isAlike_36 rfl (lv_at hl 0 rfl) ?_
          refine va_get (D := D) (ci := 5) (v := .int (S.1 33 1)) (C := R_RM) (T := T_RM) (N := 13) hx hb ht i_RM hown hK hP 33 Xa_33 rfl 1 (by decide) (ht _ mF_RM_30) (fun _ h9 => h9) rfl d_RM_isAlike_37 ?_
          refine lv_iload_n hx hb d_RM_isAlike_40 rfl (lv_at hl 2 rfl) ?_
          refine lv_imul hx hb d_RM_isAlike_41 ?_
          refine lv_iload hx hb d_RM_isAlike_42 (lv_at hl 4 rfl) ?_
          refine lv_iadd hx hb d_RM_isAlike_44 ?_
          by_cases b4 : oob (((S.1 33 1) * a2) + x4_1) 48
          · rw [if_pos b4] at hf; exact absurd hf.symm hs
          rw [if_neg b4] at hf
          refine va_iald (f := S.1 36) hx hb hK hP 36 0 Xa_36 rfl b4 d_RM_isAlike_45 ?_
          refine lv_icmp_ne (tgt := 53) hx hb d_RM_isAlike_46 (by decide) (fun c5 => ?_) (fun c5 => ?_)
          · rw [if_neg c5] at hf
            refine lv_iconst (v := 0) hx hb d_RM_isAlike_53 (by decide) ?_
            refine lv_istore_n (lv' := [(3, .int (0 : Int32)), (0, .ref (ad 33)), (1, .int a1), (2, .int a2), (4, .int x4_1)]) hx hb d_RM_isAlike_54 rfl hl (by decide) rfl (fun ls hl => ?_)
            refine lv_iinc (v := x4_1 + 1) (lv' := [(4, .int (x4_1 + 1)), (3, .int (0 : Int32)), (0, .ref (ad 33)), (1, .int a1), (2, .int a2)]) hx hb d_RM_isAlike_55 hl (k := 4) rfl rfl (by decide) rfl (fun ls hl => ?_)
            refine lv_goto (tgt := 5) hx hb d_RM_isAlike_58 (by decide) ?_
            exact ih (0 : Int32) (x4_1 + 1) _ _ _ hP hS (lv_sub hl [2, 3, 4, 1, 0] rfl) (fun hn => hs (hf.symm.trans hn)) (fun v ho => hexit v (hf.symm.trans ho))
          · rw [if_pos c5] at hf
            refine lv_iconst (v := 1) hx hb d_RM_isAlike_49 (by decide) ?_
            refine lv_goto (tgt := 54) hx hb d_RM_isAlike_50 (by decide) ?_
            refine lv_istore_n (lv' := [(3, .int (1 : Int32)), (0, .ref (ad 33)), (1, .int a1), (2, .int a2), (4, .int x4_1)]) hx hb d_RM_isAlike_54 rfl hl (by decide) rfl (fun ls hl => ?_)
            refine lv_iinc (v := x4_1 + 1) (lv' := [(4, .int (x4_1 + 1)), (3, .int (1 : Int32)), (0, .ref (ad 33)), (1, .int a1), (2, .int a2)]) hx hb d_RM_isAlike_55 hl (k := 4) rfl rfl (by decide) rfl (fun ls hl => ?_)
            refine lv_goto (tgt := 5) hx hb d_RM_isAlike_58 (by decide) ?_
            exact ih (1 : Int32) (x4_1 + 1) _ _ _ hP hS (lv_sub hl [2, 3, 4, 1, 0] rfl) (fun hn => hs (hf.symm.trans hn)) (fun v ho => hexit v (hf.symm.trans ho))
  refine lp5_1 FU (1 : Int32) (0 : Int32) _ _ _ hP hS (lv_sub hl [2, 3, 4, 1, 0] rfl) (fun hn => ?_) (fun v6 hvv6 H locs ls hP hS hl => ?_)
  · rw [hn] at hf; exact hs hf.symm
  · rw [hvv6, Option.bind_some] at hf
    refine lv_iload_n hx hb d_RM_isAlike_61 rfl (lv_at hl 3 rfl) ?_
    by_cases hz : v6 = 0 ∨ v6 = 1
    case neg => rw [if_neg hz] at hf; exact absurd hf.symm hs
    rw [if_pos hz] at hf
    rw [← hQ]
    exact W.zret (v := v6) hx hb hr (zb_n hz) (fun t ht hW => ⟨⟨v6, (), rfl, ⟨hf.symm, hz⟩, by rw [ht]; exact hP, va_K.moved hW.alike hK⟩, hS.F ht⟩) hS.2.2 d_RM_isAlike_62
set_option maxHeartbeats 4000000 in
set_option maxRecDepth 100000 in
theorem c_RM_isHeld (l : Launch) (D : va_G) (cA : Nat → ClassId) (ad : Nat → Nat) (hI : InjA ad) (sz : Nat) (a1 : Int32) (a2 : Int32) (a3 : Int32) (a4 : Int32) (S : SS) (hs : f_RM_isHeld a1 a2 a3 a4 S ≠ none) : Met l y_RM_isHeld w_RM_isHeld ({ frames := 0, cells := 0, slots := 0, locals := 0 }) (va_Pc [.ref (ad 33), .int a1, .int a2, .int a3, .int a4] (fun U => U.heap.size = sz ∧ va_P D vwCl (X cA ad S) U.heap ∧ va_K D vwCl (tysX cA) U)) (va_Qi (fun (r : Int32) (_ : Unit) => f_RM_isHeld a1 a2 a3 a4 S = some r ∧ (r = 0 ∨ r = 1)) (fun (_ : Unit) t => va_P D vwCl (X cA ad S) t.heap ∧ va_K D vwCl (tysX cA) t) (AS ad sz)) 0 0 (AS ad sz) := by
  refine Met.ofW (cc := b_RM_isHeld) (maxL := 7) (ret := (some .boolean)) (by decide) rfl ?_
  intro p e s m args below meth c s₁ B hml hv
  obtain ⟨rfl, hsz, hP, hK⟩ := hv
  have hx := B.exec
  have hb := B.bytes
  have hr := B.returns
  have hts := atoms_spec (ws := w_RM_isHeld) B.pre
  have ht := fun w h => hts w (List.mem_cons_of_mem _ h)
  have hown : s.vm.findClass R_RM = some m.cls := findClass_of_methodNamed B.named
  have hlocks := B.notSynchronized
  subst hsz
  have hAd : ∀ q, q < NP → AS ad s.heap.size (ad q) := fun q h => Or.inl ⟨q, h, rfl⟩
  have hA : ∀ q : Nat, s.heap.size ≤ q → AS ad s.heap.size q := fun q h => Or.inr h
  have hAS : ∀ z : Nat, s.heap.size ≤ z → ∀ q : Nat, AS ad z q → AS ad s.heap.size q := fun z h q hq => hq.elim Or.inl (fun g => Or.inr (Nat.le_trans h g))
  generalize hAe : AS ad s.heap.size = A at hAd hA hAS ⊢
  have hS : va_S A s.heap s.heap [] := va_S.rf
  have hl := lv_entry ([.ref (ad 33), .int a1, .int a2, .int a3, .int a4]) (n := 7) (Nat.le_of_ble_eq_true rfl)
  rw [lg_entry_eq]
  generalize (lg_sl ([.ref (ad 33), .int a1, .int a2, .int a3, .int a4]) ++ List.replicate (7 - (lg_sl ([.ref (ad 33), .int a1, .int a2, .int a3, .int a4])).length) Slot.unset).toArray = ls at hl ⊢
  have hl : lv_has ls 7 [(0, .ref (ad 33)), (1, .int a1), (2, .int a2), (3, .int a3), (4, .int a4)] := hl
  have hf := (f_RM_isHeld_s a1 a2 a3 a4 S).symm
  generalize hQ : MQ below _ _ s _ _ _ = Q
  refine lv_iconst (v := 0) hx hb d_RM_isHeld_0 (by decide) ?_
  refine lv_istore (lv' := [(5, .int (0 : Int32)), (0, .ref (ad 33)), (1, .int a1), (2, .int a2), (3, .int a3), (4, .int a4)]) hx hb d_RM_isHeld_1 hl (by decide) rfl (fun ls hl => ?_)
  refine lv_iconst (v := 0) hx hb d_RM_isHeld_3 (by decide) ?_
  refine lv_istore (lv' := [(6, .int (0 : Int32)), (5, .int (0 : Int32)), (0, .ref (ad 33)), (1, .int a1), (2, .int a2), (3, .int a3), (4, .int a4)]) hx hb d_RM_isHeld_4 hl (by decide) rfl (fun ls hl => ?_)
  have lp6_1 : ∀ (n : Nat) (x5_1 : Int32) (x6_1 : Int32) (H : Heap) (locs : List Loc) (ls : Array Slot), va_P D vwCl (X cA ad S) H → va_S A s.heap H locs → lv_has ls 7 [(0, .ref (ad 33)), (1, .int a1), (2, .int a2), (3, .int a3), (4, .int a4), (5, .int x5_1), (6, .int x6_1)] → f_RM_isHeld_L6 a1 a2 a3 a4 n x5_1 x6_1 S ≠ none →
      (∀ v : Int32, f_RM_isHeld_L6 a1 a2 a3 a4 n x5_1 x6_1 S = some v → ∀ (H : Heap) (locs : List Loc) (ls : Array Slot), va_P D vwCl (X cA ad S) H → va_S A s.heap H locs → lv_has ls 7 [(0, .ref (ad 33)), (1, .int a1), (2, .int a2), (3, .int a3), (4, .int a4), (5, .int v)] → W p l e (headSpec w_RM_isHeld ({ frames := 0, cells := 0, slots := 0, locals := 0 })).room s m ([.ref (ad 33), .int a1, .int a2, .int a3, .int a4] : List Value).toArray below meth c H locs 0 0 Q (F0 m 64 ls [])) →
      W p l e (headSpec w_RM_isHeld ({ frames := 0, cells := 0, slots := 0, locals := 0 })).room s m ([.ref (ad 33), .int a1, .int a2, .int a3, .int a4] : List Value).toArray below meth c H locs 0 0 Q (F0 m 6 ls []) := by
    intro n
    induction n with
    | zero => intro x5_1 x6_1 H locs ls hP hS hl hs; exact absurd rfl hs
    | succ n ih =>
      intro x5_1 x6_1 H locs ls hP hS hl hs hexit
      have hf := (f_RM_isHeld_L6_s a1 a2 a3 a4 n x5_1 x6_1 S).symm
      refine lv_iload hx hb d_RM_isHeld_6 (lv_at hl 6 rfl) ?_
      refine lv_iload_n hx hb d_RM_isHeld_8 rfl (lv_at hl 1 rfl) ?_
      refine lv_icmp_ge (tgt := 64) hx hb d_RM_isHeld_9 (by decide) (fun c1 => ?_) (fun c1 => ?_)
      · rw [if_pos c1] at hf
        exact hexit _ hf.symm _ _ _ hP hS (lv_sub hl [0, 1, 2, 3, 4, 5] rfl)
      · rw [if_neg c1] at hf
        refine lv_iload hx hb d_RM_isHeld_12 (lv_at hl 5 rfl) ?_
        refine lv_if_ne (tgt := 51) hx hb d_RM_isHeld_14 (by decide) (fun c2 => ?_) (fun c2 => ?_)
        · rw [if_neg c2] at hf
          refine lv_iconst (v := 1) hx hb d_RM_isHeld_51 (by decide) ?_
          refine lv_goto (tgt := 56) hx hb d_RM_isHeld_52 (by decide) ?_
          refine lv_istore (lv' := [(5, .int (1 : Int32)), (0, .ref (ad 33)), (1, .int a1), (2, .int a2), (3, .int a3), (4, .int a4), (6, .int x6_1)]) hx hb d_RM_isHeld_56 hl (by decide) rfl (fun ls hl => ?_)
          refine lv_iinc (v := x6_1 + 1) (lv' := [(6, .int (x6_1 + 1)), (5, .int (1 : Int32)), (0, .ref (ad 33)), (1, .int a1), (2, .int a2), (3, .int a3), (4, .int a4)]) hx hb d_RM_isHeld_58 hl (k := 6) rfl rfl (by decide) rfl (fun ls hl => ?_)
          refine lv_goto (tgt := 6) hx hb d_RM_isHeld_61 (by decide) ?_
          exact ih (1 : Int32) (x6_1 + 1) _ _ _ hP hS (lv_sub hl [2, 3, 4, 5, 6, 1, 0] rfl) (fun hn => hs (hf.symm.trans hn)) (fun v ho => hexit v (hf.symm.trans ho))
        · rw [if_pos c2] at hf
          refine lv_aload_n hx hb d_RM_isHeld_17 rfl (lv_at hl 0 rfl) ?_
          refine va_get (D := D) (ci := 5) (v := .ref (ad 34)) (C := R_RM) (T := T_RM) (N := 13) hx hb ht i_RM hown hK hP 33 Xa_33 rfl 5 (by decide) (ht _ mF_RM_7) (fun _ h9 => h9) rfl d_RM_isHeld_18 ?_
          refine lv_bipush (v := 6) hx hb d_RM_isHeld_21 (by decide) ?_
          refine lv_iload hx hb d_RM_isHeld_23 (lv_at hl 6 rfl) ?_
          refine lv_imul hx hb d_RM_isHeld_25 ?_
          refine lv_iload_n hx hb d_RM_isHeld_26 rfl (lv_at hl 2 rfl) ?_
          refine lv_iadd hx hb d_RM_isHeld_27 ?_
          by_cases b3 : oob (((6 : Int32) * x6_1) + a2) 48
          · rw [if_pos b3] at hf; exact absurd hf.symm hs
          rw [if_neg b3] at hf
          refine va_zald (f := S.1 34) hx hb hK hP 34 4 Xa_34 rfl b3 d_RM_isHeld_28 ?_
          refine lv_if_eq (tgt := 55) hx hb d_RM_isHeld_29 (by decide) (fun c4 => ?_) (fun c4 => ?_)
          · rw [if_pos c4] at hf
            refine lv_iconst (v := 0) hx hb d_RM_isHeld_55 (by decide) ?_
            refine lv_istore (lv' := [(5, .int (0 : Int32)), (0, .ref (ad 33)), (1, .int a1), (2, .int a2), (3, .int a3), (4, .int a4), (6, .int x6_1)]) hx hb d_RM_isHeld_56 hl (by decide) rfl (fun ls hl => ?_)
            refine lv_iinc (v := x6_1 + 1) (lv' := [(6, .int (x6_1 + 1)), (5, .int (0 : Int32)), (0, .ref (ad 33)), (1, .int a1), (2, .int a2), (3, .int a3), (4, .int a4)]) hx hb d_RM_isHeld_58 hl (k := 6) rfl rfl (by decide) rfl (fun ls hl => ?_)
            refine lv_goto (tgt := 6) hx hb d_RM_isHeld_61 (by decide) ?_
            exact ih (0 : Int32) (x6_1 + 1) _ _ _ hP hS (lv_sub hl [2, 3, 4, 5, 6, 1, 0] rfl) (fun hn => hs (hf.symm.trans hn)) (fun v ho => hexit v (hf.symm.trans ho))
          · rw [if_neg c4] at hf
            refine lv_aload_n hx hb d_RM_isHeld_32 rfl (lv_at hl 0 rfl) ?_
            refine va_get (D := D) (ci := 5) (v := .ref (ad 36)) (C := R_RM) (T := T_RM) (N := 13) hx hb ht i_RM hown hK hP 33 Xa_33 rfl 11 (by decide) (ht _ mF_RM_23) (fun _ h9 => h9) rfl d_RM_isHeld_33 ?_
            refine lv_aload_n hx hb d_RM_isHeld_36 rfl (lv_at hl 0 rfl) ?_
            refine va_get (D := D) (ci := 5) (v := .int (S.1 33 1)) (C := R_RM) (T := T_RM) (N := 13) hx hb ht i_RM hown hK hP 33 Xa_33 rfl 1 (by decide) (ht _ mF_RM_30) (fun _ h9 => h9) rfl d_RM_isHeld_37 ?_
            refine lv_iload hx hb d_RM_isHeld_40 (lv_at hl 6 rfl) ?_
            refine lv_imul hx hb d_RM_isHeld_42 ?_
            refine lv_iload_n hx hb d_RM_isHeld_43 rfl (lv_at hl 3 rfl) ?_
            refine lv_iadd hx hb d_RM_isHeld_44 ?_
            by_cases b5 : oob (((S.1 33 1) * x6_1) + a3) 48
            · rw [if_pos b5] at hf; exact absurd hf.symm hs
            rw [if_neg b5] at hf
            refine va_iald (f := S.1 36) hx hb hK hP 36 0 Xa_36 rfl b5 d_RM_isHeld_45 ?_
            refine lv_iload hx hb d_RM_isHeld_46 (lv_at hl 4 rfl) ?_
            refine lv_icmp_ne (tgt := 55) hx hb d_RM_isHeld_48 (by decide) (fun c6 => ?_) (fun c6 => ?_)
            · rw [if_neg c6] at hf
              refine lv_iconst (v := 0) hx hb d_RM_isHeld_55 (by decide) ?_
              refine lv_istore (lv' := [(5, .int (0 : Int32)), (0, .ref (ad 33)), (1, .int a1), (2, .int a2), (3, .int a3), (4, .int a4), (6, .int x6_1)]) hx hb d_RM_isHeld_56 hl (by decide) rfl (fun ls hl => ?_)
              refine lv_iinc (v := x6_1 + 1) (lv' := [(6, .int (x6_1 + 1)), (5, .int (0 : Int32)), (0, .ref (ad 33)), (1, .int a1), (2, .int a2), (3, .int a3), (4, .int a4)]) hx hb d_RM_isHeld_58 hl (k := 6) rfl rfl (by decide) rfl (fun ls hl => ?_)
              refine lv_goto (tgt := 6) hx hb d_RM_isHeld_61 (by decide) ?_
              exact ih (0 : Int32) (x6_1 + 1) _ _ _ hP hS (lv_sub hl [2, 3, 4, 5, 6, 1, 0] rfl) (fun hn => hs (hf.symm.trans hn)) (fun v ho => hexit v (hf.symm.trans ho))
            · rw [if_pos c6] at hf
              refine lv_iconst (v := 1) hx hb d_RM_isHeld_51 (by decide) ?_
              refine lv_goto (tgt := 56) hx hb d_RM_isHeld_52 (by decide) ?_
              refine lv_istore (lv' := [(5, .int (1 : Int32)), (0, .ref (ad 33)), (1, .int a1), (2, .int a2), (3, .int a3), (4, .int a4), (6, .int x6_1)]) hx hb d_RM_isHeld_56 hl (by decide) rfl (fun ls hl => ?_)
              refine lv_iinc (v := x6_1 + 1) (lv' := [(6, .int (x6_1 + 1)), (5, .int (1 : Int32)), (0, .ref (ad 33)), (1, .int a1), (2, .int a2), (3, .int a3), (4, .int a4)]) hx hb d_RM_isHeld_58 hl (k := 6) rfl rfl (by decide) rfl (fun ls hl => ?_)
              refine lv_goto (tgt := 6) hx hb d_RM_isHeld_61 (by decide) ?_
              exact ih (1 : Int32) (x6_1 + 1) _ _ _ hP hS (lv_sub hl [2, 3, 4, 5, 6, 1, 0] rfl) (fun hn => hs (hf.symm.trans hn)) (fun v ho => hexit v (hf.symm.trans ho))
  refine lp6_1 FU (0 : Int32) (0 : Int32) _ _ _ hP hS (lv_sub hl [2, 3, 4, 5, 6, 1, 0] rfl) (fun hn => ?_) (fun v7 hvv7 H locs ls hP hS hl => ?_)
  · rw [hn] at hf; exact hs hf.symm
  · rw [hvv7, Option.bind_some] at hf
    refine lv_iload hx hb d_RM_isHeld_64 (lv_at hl 5 rfl) ?_
    by_cases hz : v7 = 0 ∨ v7 = 1
    case neg => rw [if_neg hz] at hf; exact absurd hf.symm hs
    rw [if_pos hz] at hf
    rw [← hQ]
    exact W.zret (v := v7) hx hb hr (zb_n hz) (fun t ht hW => ⟨⟨v7, (), rfl, ⟨hf.symm, hz⟩, by rw [ht]; exact hP, va_K.moved hW.alike hK⟩, hS.F ht⟩) hS.2.2 d_RM_isHeld_66
set_option maxHeartbeats 4000000 in
set_option maxRecDepth 100000 in
theorem c_RM_isFitting (l : Launch) (D : va_G) (cA : Nat → ClassId) (ad : Nat → Nat) (hI : InjA ad) (sz : Nat) (a1 : Int32) (a2 : Int32) (a3 : Int32) (S : SS) (hs : f_RM_isFitting a1 a2 a3 S ≠ none) : Met l y_RM_isFitting w_RM_isFitting ({ frames := 1, cells := 0, slots := 0, locals := 26 }) (va_Pc [.ref (ad 33), .int a1, .int a2, .int a3] (fun U => U.heap.size = sz ∧ va_P D vwCl (X cA ad S) U.heap ∧ va_K D vwCl (tysX cA) U)) (va_Qi (fun (r : Int32) (_ : Unit) => f_RM_isFitting a1 a2 a3 S = some r ∧ (r = 0 ∨ r = 1)) (fun (_ : Unit) t => va_P D vwCl (X cA ad S) t.heap ∧ va_K D vwCl (tysX cA) t) (AS ad sz)) 0 0 (AS ad sz) := by
  refine Met.ofW (cc := b_RM_isFitting) (maxL := 6) (ret := (some .boolean)) (by decide) rfl ?_
  intro p e s m args below meth c s₁ B hml hv
  obtain ⟨rfl, hsz, hP, hK⟩ := hv
  have hx := B.exec
  have hb := B.bytes
  have hr := B.returns
  have hts := atoms_spec (ws := w_RM_isFitting) B.pre
  have ht := fun w h => hts w (List.mem_cons_of_mem _ h)
  have hown : s.vm.findClass R_RM = some m.cls := findClass_of_methodNamed B.named
  have hlocks := B.notSynchronized
  subst hsz
  have hAd : ∀ q, q < NP → AS ad s.heap.size (ad q) := fun q h => Or.inl ⟨q, h, rfl⟩
  have hA : ∀ q : Nat, s.heap.size ≤ q → AS ad s.heap.size q := fun q h => Or.inr h
  have hAS : ∀ z : Nat, s.heap.size ≤ z → ∀ q : Nat, AS ad z q → AS ad s.heap.size q := fun z h q hq => hq.elim Or.inl (fun g => Or.inr (Nat.le_trans h g))
  generalize hAe : AS ad s.heap.size = A at hAd hA hAS ⊢
  have hS : va_S A s.heap s.heap [] := va_S.rf
  have hl := lv_entry ([.ref (ad 33), .int a1, .int a2, .int a3]) (n := 6) (Nat.le_of_ble_eq_true rfl)
  rw [lg_entry_eq]
  generalize (lg_sl ([.ref (ad 33), .int a1, .int a2, .int a3]) ++ List.replicate (6 - (lg_sl ([.ref (ad 33), .int a1, .int a2, .int a3])).length) Slot.unset).toArray = ls at hl ⊢
  have hl : lv_has ls 6 [(0, .ref (ad 33)), (1, .int a1), (2, .int a2), (3, .int a3)] := hl
  have hf := (f_RM_isFitting_s a1 a2 a3 S).symm
  generalize hQ : MQ below _ _ s _ _ _ = Q
  refine lv_iconst (v := 1) hx hb d_RM_isFitting_0 (by decide) ?_
  refine lv_istore (lv' := [(4, .int (1 : Int32)), (0, .ref (ad 33)), (1, .int a1), (2, .int a2), (3, .int a3)]) hx hb d_RM_isFitting_1 hl (by decide) rfl (fun ls hl => ?_)
  refine lv_iconst (v := 0) hx hb d_RM_isFitting_3 (by decide) ?_
  refine lv_istore (lv' := [(5, .int (0 : Int32)), (4, .int (1 : Int32)), (0, .ref (ad 33)), (1, .int a1), (2, .int a2), (3, .int a3)]) hx hb d_RM_isFitting_4 hl (by decide) rfl (fun ls hl => ?_)
  have lp6_1 : ∀ (n : Nat) (x4_1 : Int32) (x5_1 : Int32) (H : Heap) (locs : List Loc) (ls : Array Slot), va_P D vwCl (X cA ad S) H → va_S A s.heap H locs → lv_has ls 6 [(0, .ref (ad 33)), (1, .int a1), (2, .int a2), (3, .int a3), (4, .int x4_1), (5, .int x5_1)] → f_RM_isFitting_L6 a1 a2 a3 n x4_1 x5_1 S ≠ none →
      (∀ v : Int32, f_RM_isFitting_L6 a1 a2 a3 n x4_1 x5_1 S = some v → ∀ (H : Heap) (locs : List Loc) (ls : Array Slot), va_P D vwCl (X cA ad S) H → va_S A s.heap H locs → lv_has ls 6 [(0, .ref (ad 33)), (1, .int a1), (2, .int a2), (3, .int a3), (4, .int v)] → W p l e (headSpec w_RM_isFitting ({ frames := 1, cells := 0, slots := 0, locals := 26 })).room s m ([.ref (ad 33), .int a1, .int a2, .int a3] : List Value).toArray below meth c H locs 0 0 Q (F0 m 58 ls [])) →
      W p l e (headSpec w_RM_isFitting ({ frames := 1, cells := 0, slots := 0, locals := 26 })).room s m ([.ref (ad 33), .int a1, .int a2, .int a3] : List Value).toArray below meth c H locs 0 0 Q (F0 m 6 ls []) := by
    intro n
    induction n with
    | zero => intro x4_1 x5_1 H locs ls hP hS hl hs; exact absurd rfl hs
    | succ n ih =>
      intro x4_1 x5_1 H locs ls hP hS hl hs hexit
      have hf := (f_RM_isFitting_L6_s a1 a2 a3 n x4_1 x5_1 S).symm
      refine lv_iload hx hb d_RM_isFitting_6 (lv_at hl 5 rfl) ?_
      refine lv_aload_n hx hb d_RM_isFitting_8 rfl (lv_at hl 0 rfl) ?_
      refine va_get (D := D) (ci := 5) (v := .int (S.1 33 1)) (C := R_RM) (T := T_RM) (N := 13) hx hb ht i_RM hown hK hP 33 Xa_33 rfl 1 (by decide) (ht _ mF_RM_30) (fun _ h9 => h9) rfl d_RM_isFitting_9 ?_
      refine lv_icmp_ge (tgt := 58) hx hb d_RM_isFitting_12 (by decide) (fun c1 => ?_) (fun c1 => ?_)
      · rw [if_pos c1] at hf
        exact hexit _ hf.symm _ _ _ hP hS (lv_sub hl [0, 1, 2, 3, 4] rfl)
      · rw [if_neg c1] at hf
        refine lv_iload hx hb d_RM_isFitting_15 (lv_at hl 4 rfl) ?_
        refine lv_if_eq (tgt := 49) hx hb d_RM_isFitting_17 (by decide) (fun c2 => ?_) (fun c2 => ?_)
        · rw [if_pos c2] at hf
          refine lv_iconst (v := 0) hx hb d_RM_isFitting_49 (by decide) ?_
          refine lv_istore (lv' := [(4, .int (0 : Int32)), (0, .ref (ad 33)), (1, .int a1), (2, .int a2), (3, .int a3), (5, .int x5_1)]) hx hb d_RM_isFitting_50 hl (by decide) rfl (fun ls hl => ?_)
          refine lv_iinc (v := x5_1 + 1) (lv' := [(5, .int (x5_1 + 1)), (4, .int (0 : Int32)), (0, .ref (ad 33)), (1, .int a1), (2, .int a2), (3, .int a3)]) hx hb d_RM_isFitting_52 hl (k := 5) rfl rfl (by decide) rfl (fun ls hl => ?_)
          refine lv_goto (tgt := 6) hx hb d_RM_isFitting_55 (by decide) ?_
          exact ih (0 : Int32) (x5_1 + 1) _ _ _ hP hS (lv_sub hl [2, 3, 4, 5, 1, 0] rfl) (fun hn => hs (hf.symm.trans hn)) (fun v ho => hexit v (hf.symm.trans ho))
        · rw [if_neg c2] at hf
          refine lv_aload_n hx hb d_RM_isFitting_20 rfl (lv_at hl 0 rfl) ?_
          refine lv_iload_n hx hb d_RM_isFitting_21 rfl (lv_at hl 1 rfl) ?_
          refine lv_iload_n hx hb d_RM_isFitting_22 rfl (lv_at hl 3 rfl) ?_
          refine lv_iload hx hb d_RM_isFitting_23 (lv_at hl 5 rfl) ?_
          refine lv_aload_n hx hb d_RM_isFitting_25 rfl (lv_at hl 0 rfl) ?_
          refine va_get (D := D) (ci := 5) (v := .ref (ad 36)) (C := R_RM) (T := T_RM) (N := 13) hx hb ht i_RM hown hK hP 33 Xa_33 rfl 11 (by decide) (ht _ mF_RM_23) (fun _ h9 => h9) rfl d_RM_isFitting_26 ?_
          refine lv_aload_n hx hb d_RM_isFitting_29 rfl (lv_at hl 0 rfl) ?_
          refine va_get (D := D) (ci := 5) (v := .int (S.1 33 1)) (C := R_RM) (T := T_RM) (N := 13) hx hb ht i_RM hown hK hP 33 Xa_33 rfl 1 (by decide) (ht _ mF_RM_30) (fun _ h9 => h9) rfl d_RM_isFitting_30 ?_
          refine lv_iload_n hx hb d_RM_isFitting_33 rfl (lv_at hl 2 rfl) ?_
          refine lv_imul hx hb d_RM_isFitting_34 ?_
          refine lv_iload hx hb d_RM_isFitting_35 (lv_at hl 5 rfl) ?_
          refine lv_iadd hx hb d_RM_isFitting_37 ?_
          by_cases b3 : oob (((S.1 33 1) * a2) + x5_1) 48
          · rw [if_pos b3] at hf; exact absurd hf.symm hs
          rw [if_neg b3] at hf
          refine va_iald (f := S.1 36) hx hb hK hP 36 0 Xa_36 rfl b3 d_RM_isFitting_38 ?_
          refine va_calli (va_runV (As := [.int a1, .int a3, .int x5_1, .int (S.1 36 (((S.1 33 1) * a2) + x5_1).toNatClampNeg)]) (rest := []) ⟨hx, hb, hml, hown, ht⟩ (c_RM_isHeld l D cA ad hI H.size a1 a3 x5_1 (S.1 36 (((S.1 33 1) * a2) + x5_1).toNatClampNeg) S (fun hn => hs (by rw [hn] at hf; exact hf.symm))) (cwV 4 ht (good_G (gV mM_RM_63 mI_RM_isHeld mV_RM_isHeld mN_RM mk_RM_isHeld)) rfl rfl rfl (by decide +kernel) ⟨Nat.le_of_ble_eq_true rfl, Nat.le_of_ble_eq_true rfl⟩) ⟨fun a U g mk q => ⟨q.1, q.2.1, q.2.2.1, va_K.moved (u := U) (U := U.calling g mk a) (Vm.Alike.refl U.vm) q.2.2.2⟩, va_recv hK hP (ci := 5) (q0 := 33) rfl Xa_33, fun U hU hW => ⟨rfl, by rw [hU], by rw [hU]; exact hP, va_K.moved hW.alike hK⟩⟩ rfl rfl hl.1 rfl (lv_room (Nat.le_of_ble_eq_true rfl)) d_RM_isFitting_39 ⟨Nat.le_of_ble_eq_true rfl, Nat.le_of_ble_eq_true rfl⟩) hS (fun q _ h => hAS _ hS.1 q h) (fun q h => hAS _ hS.1 q h) (fun r1 _ t H locs ht9 hvm hw hB hz1 hk1 hS => ?_)
          obtain ⟨hP, hK9⟩ := hB
          rw [ht9] at hP
          obtain ⟨hw, hz1⟩ := hw
          rw [hw, Option.bind_some] at hf
          refine lv_if_eq (tgt := 49) hx hb d_RM_isFitting_42 (by decide) (fun c4 => ?_) (fun c4 => ?_)
          · rw [if_pos c4] at hf
            refine lv_iconst (v := 0) hx hb d_RM_isFitting_49 (by decide) ?_
            refine lv_istore (lv' := [(4, .int (0 : Int32)), (0, .ref (ad 33)), (1, .int a1), (2, .int a2), (3, .int a3), (5, .int x5_1)]) hx hb d_RM_isFitting_50 hl (by decide) rfl (fun ls hl => ?_)
            refine lv_iinc (v := x5_1 + 1) (lv' := [(5, .int (x5_1 + 1)), (4, .int (0 : Int32)), (0, .ref (ad 33)), (1, .int a1), (2, .int a2), (3, .int a3)]) hx hb d_RM_isFitting_52 hl (k := 5) rfl rfl (by decide) rfl (fun ls hl => ?_)
            refine lv_goto (tgt := 6) hx hb d_RM_isFitting_55 (by decide) ?_
            exact ih (0 : Int32) (x5_1 + 1) _ _ _ hP hS (lv_sub hl [2, 3, 4, 5, 1, 0] rfl) (fun hn => hs (hf.symm.trans hn)) (fun v ho => hexit v (hf.symm.trans ho))
          · rw [if_neg c4] at hf
            refine lv_iconst (v := 1) hx hb d_RM_isFitting_45 (by decide) ?_
            refine lv_goto (tgt := 50) hx hb d_RM_isFitting_46 (by decide) ?_
            refine lv_istore (lv' := [(4, .int (1 : Int32)), (0, .ref (ad 33)), (1, .int a1), (2, .int a2), (3, .int a3), (5, .int x5_1)]) hx hb d_RM_isFitting_50 hl (by decide) rfl (fun ls hl => ?_)
            refine lv_iinc (v := x5_1 + 1) (lv' := [(5, .int (x5_1 + 1)), (4, .int (1 : Int32)), (0, .ref (ad 33)), (1, .int a1), (2, .int a2), (3, .int a3)]) hx hb d_RM_isFitting_52 hl (k := 5) rfl rfl (by decide) rfl (fun ls hl => ?_)
            refine lv_goto (tgt := 6) hx hb d_RM_isFitting_55 (by decide) ?_
            exact ih (1 : Int32) (x5_1 + 1) _ _ _ hP hS (lv_sub hl [2, 3, 4, 5, 1, 0] rfl) (fun hn => hs (hf.symm.trans hn)) (fun v ho => hexit v (hf.symm.trans ho))
  refine lp6_1 FU (1 : Int32) (0 : Int32) _ _ _ hP hS (lv_sub hl [2, 3, 4, 5, 1, 0] rfl) (fun hn => ?_) (fun v5 hvv5 H locs ls hP hS hl => ?_)
  · rw [hn] at hf; exact hs hf.symm
  · rw [hvv5, Option.bind_some] at hf
    refine lv_iload hx hb d_RM_isFitting_58 (lv_at hl 4 rfl) ?_
    by_cases hz : v5 = 0 ∨ v5 = 1
    case neg => rw [if_neg hz] at hf; exact absurd hf.symm hs
    rw [if_pos hz] at hf
    rw [← hQ]
    exact W.zret (v := v5) hx hb hr (zb_n hz) (fun t ht hW => ⟨⟨v5, (), rfl, ⟨hf.symm, hz⟩, by rw [ht]; exact hP, va_K.moved hW.alike hK⟩, hS.F ht⟩) hS.2.2 d_RM_isFitting_60
set_option maxHeartbeats 4000000 in
set_option maxRecDepth 100000 in
theorem c_RM_areGood (l : Launch) (D : va_G) (cA : Nat → ClassId) (ad : Nat → Nat) (hI : InjA ad) (sz : Nat) (a1 : Int32) (S : SS) (hs : f_RM_areGood a1 S ≠ none) : Met l y_RM_areGood w_RM_areGood ({ frames := 2, cells := 0, slots := 0, locals := 51 }) (va_Pc [.ref (ad 33), .int a1] (fun U => U.heap.size = sz ∧ va_P D vwCl (X cA ad S) U.heap ∧ va_K D vwCl (tysX cA) U)) (va_Qi (fun (r : Int32) (_ : Unit) => f_RM_areGood a1 S = some r ∧ (r = 0 ∨ r = 1)) (fun (_ : Unit) t => va_P D vwCl (X cA ad S) t.heap ∧ va_K D vwCl (tysX cA) t) (AS ad sz)) 0 0 (AS ad sz) := by
  refine Met.ofW (cc := b_RM_areGood) (maxL := 6) (ret := (some .boolean)) (by decide) rfl ?_
  intro p e s m args below meth c s₁ B hml hv
  obtain ⟨rfl, hsz, hP, hK⟩ := hv
  have hx := B.exec
  have hb := B.bytes
  have hr := B.returns
  have hts := atoms_spec (ws := w_RM_areGood) B.pre
  have ht := fun w h => hts w (List.mem_cons_of_mem _ h)
  have hown : s.vm.findClass R_RM = some m.cls := findClass_of_methodNamed B.named
  have hlocks := B.notSynchronized
  subst hsz
  have hAd : ∀ q, q < NP → AS ad s.heap.size (ad q) := fun q h => Or.inl ⟨q, h, rfl⟩
  have hA : ∀ q : Nat, s.heap.size ≤ q → AS ad s.heap.size q := fun q h => Or.inr h
  have hAS : ∀ z : Nat, s.heap.size ≤ z → ∀ q : Nat, AS ad z q → AS ad s.heap.size q := fun z h q hq => hq.elim Or.inl (fun g => Or.inr (Nat.le_trans h g))
  generalize hAe : AS ad s.heap.size = A at hAd hA hAS ⊢
  have hS : va_S A s.heap s.heap [] := va_S.rf
  have hl := lv_entry ([.ref (ad 33), .int a1]) (n := 6) (Nat.le_of_ble_eq_true rfl)
  rw [lg_entry_eq]
  generalize (lg_sl ([.ref (ad 33), .int a1]) ++ List.replicate (6 - (lg_sl ([.ref (ad 33), .int a1])).length) Slot.unset).toArray = ls at hl ⊢
  have hl : lv_has ls 6 [(0, .ref (ad 33)), (1, .int a1)] := hl
  have hf := (f_RM_areGood_s a1 S).symm
  generalize hQ : MQ below _ _ s _ _ _ = Q
  refine lv_iconst (v := 0) hx hb d_RM_areGood_0 (by decide) ?_
  refine lv_istore_n (lv' := [(2, .int (0 : Int32)), (0, .ref (ad 33)), (1, .int a1)]) hx hb d_RM_areGood_1 rfl hl (by decide) rfl (fun ls hl => ?_)
  have lp2_1 : ∀ (n : Nat) (x2_1 : Int32) (H : Heap) (locs : List Loc) (ls : Array Slot), va_P D vwCl (X cA ad S) H → va_S A s.heap H locs → lv_has ls 6 [(0, .ref (ad 33)), (1, .int a1), (2, .int x2_1)] → f_RM_areGood_L2 a1 n x2_1 S ≠ none →
      (∀ o : Int32, f_RM_areGood_L2 a1 n x2_1 S = some (.inl o) → f_RM_areGood a1 S = some o) →
      (∀ v : Unit, f_RM_areGood_L2 a1 n x2_1 S = some (.inr v) → ∀ (H : Heap) (locs : List Loc) (ls : Array Slot), va_P D vwCl (X cA ad S) H → va_S A s.heap H locs → lv_has ls 6 [(0, .ref (ad 33)), (1, .int a1)] → W p l e (headSpec w_RM_areGood ({ frames := 2, cells := 0, slots := 0, locals := 51 })).room s m ([.ref (ad 33), .int a1] : List Value).toArray below meth c H locs 0 0 Q (F0 m 28 ls [])) →
      W p l e (headSpec w_RM_areGood ({ frames := 2, cells := 0, slots := 0, locals := 51 })).room s m ([.ref (ad 33), .int a1] : List Value).toArray below meth c H locs 0 0 Q (F0 m 2 ls []) := by
    intro n
    induction n with
    | zero => intro x2_1 H locs ls hP hS hl hs; exact absurd rfl hs
    | succ n ih =>
      intro x2_1 H locs ls hP hS hl hs hret hexit
      have hf := (f_RM_areGood_L2_s a1 n x2_1 S).symm
      refine lv_iload_n hx hb d_RM_areGood_2 rfl (lv_at hl 2 rfl) ?_
      refine lv_iload_n hx hb d_RM_areGood_3 rfl (lv_at hl 1 rfl) ?_
      refine lv_iconst (v := 1) hx hb d_RM_areGood_4 (by decide) ?_
      refine lv_isub hx hb d_RM_areGood_5 ?_
      refine lv_icmp_ge (tgt := 28) hx hb d_RM_areGood_6 (by decide) (fun c1 => ?_) (fun c1 => ?_)
      · rw [if_pos c1] at hf
        exact hexit _ hf.symm _ _ _ hP hS (lv_sub hl [0, 1] rfl)
      · rw [if_neg c1] at hf
        refine lv_aload_n hx hb d_RM_areGood_9 rfl (lv_at hl 0 rfl) ?_
        refine lv_iload_n hx hb d_RM_areGood_10 rfl (lv_at hl 2 rfl) ?_
        refine lv_iload_n hx hb d_RM_areGood_11 rfl (lv_at hl 1 rfl) ?_
        refine lv_iconst (v := 1) hx hb d_RM_areGood_12 (by decide) ?_
        refine lv_isub hx hb d_RM_areGood_13 ?_
        refine va_calli (va_runV (As := [.int x2_1, .int (a1 - (1 : Int32))]) (rest := []) ⟨hx, hb, hml, hown, ht⟩ (c_RM_isAlike l D cA ad hI H.size x2_1 (a1 - (1 : Int32)) S (fun hn => hs (by rw [hn] at hf; exact hf.symm))) (cwV 2 ht (good_G (gV mM_RM_67 mI_RM_isAlike mV_RM_isAlike mN_RM mk_RM_isAlike)) rfl rfl rfl (by decide +kernel) ⟨Nat.le_of_ble_eq_true rfl, Nat.le_of_ble_eq_true rfl⟩) ⟨fun a U g mk q => ⟨q.1, q.2.1, q.2.2.1, va_K.moved (u := U) (U := U.calling g mk a) (Vm.Alike.refl U.vm) q.2.2.2⟩, va_recv hK hP (ci := 5) (q0 := 33) rfl Xa_33, fun U hU hW => ⟨rfl, by rw [hU], by rw [hU]; exact hP, va_K.moved hW.alike hK⟩⟩ rfl rfl hl.1 rfl (lv_room (Nat.le_of_ble_eq_true rfl)) d_RM_areGood_14 ⟨Nat.le_of_ble_eq_true rfl, Nat.le_of_ble_eq_true rfl⟩) hS (fun q _ h => hAS _ hS.1 q h) (fun q h => hAS _ hS.1 q h) (fun r1 _ t H locs ht9 hvm hw hB hz1 hk1 hS => ?_)
        obtain ⟨hP, hK9⟩ := hB
        rw [ht9] at hP
        obtain ⟨hw, hz1⟩ := hw
        rw [hw, Option.bind_some] at hf
        refine lv_if_eq (tgt := 22) hx hb d_RM_areGood_17 (by decide) (fun c2 => ?_) (fun c2 => ?_)
        · rw [if_pos c2] at hf
          refine lv_iinc (v := x2_1 + 1) (lv' := [(2, .int (x2_1 + 1)), (0, .ref (ad 33)), (1, .int a1)]) hx hb d_RM_areGood_22 hl (k := 2) rfl rfl (by decide) rfl (fun ls hl => ?_)
          refine lv_goto (tgt := 2) hx hb d_RM_areGood_25 (by decide) ?_
          exact ih (x2_1 + 1) _ _ _ hP hS (lv_sub hl [1, 2, 0] rfl) (fun hn => hs (hf.symm.trans hn)) (fun o ho => hret o (hf.symm.trans ho)) (fun v ho => hexit v (hf.symm.trans ho))
        · rw [if_neg c2] at hf
          refine lv_iconst (v := 0) hx hb d_RM_areGood_20 (by decide) ?_
          rw [← hQ]
          have hz : (0 : Int32) = 0 ∨ (0 : Int32) = 1 := Or.inl rfl
          exact W.zret (v := (0 : Int32)) hx hb hr (zb_n hz) (fun t ht hW => ⟨⟨(0 : Int32), (), rfl, ⟨hret _ hf.symm, hz⟩, by rw [ht]; exact hP, va_K.moved hW.alike hK⟩, hS.F ht⟩) hS.2.2 d_RM_areGood_21
  refine lp2_1 FU (0 : Int32) _ _ _ hP hS (lv_sub hl [1, 2, 0] rfl) (fun hn => ?_) (fun o ho => ?_) (fun v3 hvv3 H locs ls hP hS hl => ?_)
  · rw [hn] at hf; exact hs hf.symm
  · rw [ho, Option.bind_some, Sum.elim_inl] at hf; exact hf.symm
  · rw [hvv3, Option.bind_some, Sum.elim_inr] at hf
    refine lv_iconst (v := 0) hx hb d_RM_areGood_28 (by decide) ?_
    refine lv_istore_n (lv' := [(2, .int (0 : Int32)), (0, .ref (ad 33)), (1, .int a1)]) hx hb d_RM_areGood_29 rfl hl (by decide) rfl (fun ls hl => ?_)
    have lp30_2 : ∀ (n : Nat) (x2_2 : Int32) (H : Heap) (locs : List Loc) (ls : Array Slot), va_P D vwCl (X cA ad S) H → va_S A s.heap H locs → lv_has ls 6 [(0, .ref (ad 33)), (1, .int a1), (2, .int x2_2)] → f_RM_areGood_L30 a1 n x2_2 S ≠ none →
        (∀ o : Int32, f_RM_areGood_L30 a1 n x2_2 S = some (.inl o) → f_RM_areGood a1 S = some o) →
        (∀ v : Unit, f_RM_areGood_L30 a1 n x2_2 S = some (.inr v) → ∀ (H : Heap) (locs : List Loc) (ls : Array Slot), va_P D vwCl (X cA ad S) H → va_S A s.heap H locs → lv_has ls 6 [(0, .ref (ad 33)), (1, .int a1)] → W p l e (headSpec w_RM_areGood ({ frames := 2, cells := 0, slots := 0, locals := 51 })).room s m ([.ref (ad 33), .int a1] : List Value).toArray below meth c H locs 0 0 Q (F0 m 153 ls [])) →
        W p l e (headSpec w_RM_areGood ({ frames := 2, cells := 0, slots := 0, locals := 51 })).room s m ([.ref (ad 33), .int a1] : List Value).toArray below meth c H locs 0 0 Q (F0 m 30 ls []) := by
      intro n
      induction n with
      | zero => intro x2_2 H locs ls hP hS hl hs; exact absurd rfl hs
      | succ n ih =>
        intro x2_2 H locs ls hP hS hl hs hret hexit
        have hf := (f_RM_areGood_L30_s a1 n x2_2 S).symm
        refine lv_iload_n hx hb d_RM_areGood_30 rfl (lv_at hl 2 rfl) ?_
        refine lv_aload_n hx hb d_RM_areGood_31 rfl (lv_at hl 0 rfl) ?_
        refine va_get (D := D) (ci := 5) (v := .int (S.1 33 4)) (C := R_RM) (T := T_RM) (N := 13) hx hb ht i_RM hown hK hP 33 Xa_33 rfl 4 (by decide) (ht _ mF_RM_42) (fun _ h9 => h9) rfl d_RM_areGood_32 ?_
        refine lv_icmp_ge (tgt := 153) hx hb d_RM_areGood_35 (by decide) (fun c4 => ?_) (fun c4 => ?_)
        · rw [if_pos c4] at hf
          exact hexit _ hf.symm _ _ _ hP hS (lv_sub hl [0, 1] rfl)
        · rw [if_neg c4] at hf
          refine lv_iconst (v := 0) hx hb d_RM_areGood_38 (by decide) ?_
          refine lv_istore_n (lv' := [(3, .int (0 : Int32)), (0, .ref (ad 33)), (1, .int a1), (2, .int x2_2)]) hx hb d_RM_areGood_39 rfl hl (by decide) rfl (fun ls hl => ?_)
          have lp40_3 : ∀ (n : Nat) (x3_3 : Int32) (H : Heap) (locs : List Loc) (ls : Array Slot), va_P D vwCl (X cA ad S) H → va_S A s.heap H locs → lv_has ls 6 [(0, .ref (ad 33)), (1, .int a1), (2, .int x2_2), (3, .int x3_3)] → f_RM_areGood_L40 a1 x2_2 n x3_3 S ≠ none →
              (∀ o : Int32, f_RM_areGood_L40 a1 x2_2 n x3_3 S = some (.inl o) → f_RM_areGood a1 S = some o) →
              (∀ v : Unit, f_RM_areGood_L40 a1 x2_2 n x3_3 S = some (.inr v) → ∀ (H : Heap) (locs : List Loc) (ls : Array Slot), va_P D vwCl (X cA ad S) H → va_S A s.heap H locs → lv_has ls 6 [(0, .ref (ad 33)), (1, .int a1), (2, .int x2_2)] → W p l e (headSpec w_RM_areGood ({ frames := 2, cells := 0, slots := 0, locals := 51 })).room s m ([.ref (ad 33), .int a1] : List Value).toArray below meth c H locs 0 0 Q (F0 m 108 ls [])) →
              W p l e (headSpec w_RM_areGood ({ frames := 2, cells := 0, slots := 0, locals := 51 })).room s m ([.ref (ad 33), .int a1] : List Value).toArray below meth c H locs 0 0 Q (F0 m 40 ls []) := by
            intro n
            induction n with
            | zero => intro x3_3 H locs ls hP hS hl hs; exact absurd rfl hs
            | succ n ih =>
              intro x3_3 H locs ls hP hS hl hs hret hexit
              have hf := (f_RM_areGood_L40_s a1 x2_2 n x3_3 S).symm
              refine lv_iload_n hx hb d_RM_areGood_40 rfl (lv_at hl 3 rfl) ?_
              refine lv_aload_n hx hb d_RM_areGood_41 rfl (lv_at hl 0 rfl) ?_
              refine va_get (D := D) (ci := 5) (v := .int (S.1 33 1)) (C := R_RM) (T := T_RM) (N := 13) hx hb ht i_RM hown hK hP 33 Xa_33 rfl 1 (by decide) (ht _ mF_RM_30) (fun _ h9 => h9) rfl d_RM_areGood_42 ?_
              refine lv_icmp_ge (tgt := 108) hx hb d_RM_areGood_45 (by decide) (fun c5 => ?_) (fun c5 => ?_)
              · rw [if_pos c5] at hf
                exact hexit _ hf.symm _ _ _ hP hS (lv_sub hl [0, 1, 2] rfl)
              · rw [if_neg c5] at hf
                refine lv_iconst (v := 0) hx hb d_RM_areGood_48 (by decide) ?_
                refine lv_istore (lv' := [(4, .int (0 : Int32)), (0, .ref (ad 33)), (1, .int a1), (2, .int x2_2), (3, .int x3_3)]) hx hb d_RM_areGood_49 hl (by decide) rfl (fun ls hl => ?_)
                refine lv_iconst (v := 0) hx hb d_RM_areGood_51 (by decide) ?_
                refine lv_istore (lv' := [(5, .int (0 : Int32)), (4, .int (0 : Int32)), (0, .ref (ad 33)), (1, .int a1), (2, .int x2_2), (3, .int x3_3)]) hx hb d_RM_areGood_52 hl (by decide) rfl (fun ls hl => ?_)
                have lp54_4 : ∀ (n : Nat) (x4_4 : Int32) (x5_4 : Int32) (H : Heap) (locs : List Loc) (ls : Array Slot), va_P D vwCl (X cA ad S) H → va_S A s.heap H locs → lv_has ls 6 [(0, .ref (ad 33)), (1, .int a1), (2, .int x2_2), (3, .int x3_3), (4, .int x4_4), (5, .int x5_4)] → f_RM_areGood_L54 a1 x2_2 x3_3 n x4_4 x5_4 S ≠ none →
                    (∀ v : Int32, f_RM_areGood_L54 a1 x2_2 x3_3 n x4_4 x5_4 S = some v → ∀ (H : Heap) (locs : List Loc) (ls : Array Slot), va_P D vwCl (X cA ad S) H → va_S A s.heap H locs → lv_has ls 6 [(0, .ref (ad 33)), (1, .int a1), (2, .int x2_2), (3, .int x3_3), (4, .int v)] → W p l e (headSpec w_RM_areGood ({ frames := 2, cells := 0, slots := 0, locals := 51 })).room s m ([.ref (ad 33), .int a1] : List Value).toArray below meth c H locs 0 0 Q (F0 m 91 ls [])) →
                    W p l e (headSpec w_RM_areGood ({ frames := 2, cells := 0, slots := 0, locals := 51 })).room s m ([.ref (ad 33), .int a1] : List Value).toArray below meth c H locs 0 0 Q (F0 m 54 ls []) := by
                  intro n
                  induction n with
                  | zero => intro x4_4 x5_4 H locs ls hP hS hl hs; exact absurd rfl hs
                  | succ n ih =>
                    intro x4_4 x5_4 H locs ls hP hS hl hs hexit
                    have hf := (f_RM_areGood_L54_s a1 x2_2 x3_3 n x4_4 x5_4 S).symm
                    refine lv_iload hx hb d_RM_areGood_54 (lv_at hl 5 rfl) ?_
                    refine lv_aload_n hx hb d_RM_areGood_56 rfl (lv_at hl 0 rfl) ?_
                    refine va_get (D := D) (ci := 5) (v := .int (S.1 33 2)) (C := R_RM) (T := T_RM) (N := 13) hx hb ht i_RM hown hK hP 33 Xa_33 rfl 2 (by decide) (ht _ mF_RM_33) (fun _ h9 => h9) rfl d_RM_areGood_57 ?_
                    refine lv_icmp_ge (tgt := 91) hx hb d_RM_areGood_60 (by decide) (fun c6 => ?_) (fun c6 => ?_)
                    · rw [if_pos c6] at hf
                      exact hexit _ hf.symm _ _ _ hP hS (lv_sub hl [0, 1, 2, 3, 4] rfl)
                    · rw [if_neg c6] at hf
                      refine lv_iload hx hb d_RM_areGood_63 (lv_at hl 4 rfl) ?_
                      refine lv_aload_n hx hb d_RM_areGood_65 rfl (lv_at hl 0 rfl) ?_
                      refine lv_iload_n hx hb d_RM_areGood_66 rfl (lv_at hl 1 rfl) ?_
                      refine lv_iload_n hx hb d_RM_areGood_67 rfl (lv_at hl 2 rfl) ?_
                      refine lv_iload_n hx hb d_RM_areGood_68 rfl (lv_at hl 3 rfl) ?_
                      refine lv_iload hx hb d_RM_areGood_69 (lv_at hl 5 rfl) ?_
                      refine va_calli (va_runV (As := [.int a1, .int x2_2, .int x3_3, .int x5_4]) (rest := [.int x4_4]) ⟨hx, hb, hml, hown, ht⟩ (c_RM_isHeld l D cA ad hI H.size a1 x2_2 x3_3 x5_4 S (fun hn => hs (by rw [hn] at hf; exact hf.symm))) (cwV 4 ht (good_G (gV mM_RM_63 mI_RM_isHeld mV_RM_isHeld mN_RM mk_RM_isHeld)) rfl rfl rfl (by decide +kernel) ⟨Nat.le_of_ble_eq_true rfl, Nat.le_of_ble_eq_true rfl⟩) ⟨fun a U g mk q => ⟨q.1, q.2.1, q.2.2.1, va_K.moved (u := U) (U := U.calling g mk a) (Vm.Alike.refl U.vm) q.2.2.2⟩, va_recv hK hP (ci := 5) (q0 := 33) rfl Xa_33, fun U hU hW => ⟨rfl, by rw [hU], by rw [hU]; exact hP, va_K.moved hW.alike hK⟩⟩ rfl rfl hl.1 rfl (lv_room (Nat.le_of_ble_eq_true rfl)) d_RM_areGood_71 ⟨Nat.le_of_ble_eq_true rfl, Nat.le_of_ble_eq_true rfl⟩) hS (fun q _ h => hAS _ hS.1 q h) (fun q h => hAS _ hS.1 q h) (fun r2 _ t H locs ht9 hvm hw hB hz1 hk1 hS => ?_)
                      obtain ⟨hP, hK9⟩ := hB
                      rw [ht9] at hP
                      obtain ⟨hw, hz2⟩ := hw
                      rw [hw, Option.bind_some] at hf
                      refine lv_if_eq (tgt := 81) hx hb d_RM_areGood_74 (by decide) (fun c7 => ?_) (fun c7 => ?_)
                      · rw [if_pos c7] at hf
                        refine lv_iconst (v := 0) hx hb d_RM_areGood_81 (by decide) ?_
                        refine lv_iadd hx hb d_RM_areGood_82 ?_
                        refine lv_istore (lv' := [(4, .int (x4_4 + (0 : Int32))), (0, .ref (ad 33)), (1, .int a1), (2, .int x2_2), (3, .int x3_3), (5, .int x5_4)]) hx hb d_RM_areGood_83 hl (by decide) rfl (fun ls hl => ?_)
                        refine lv_iinc (v := x5_4 + 1) (lv' := [(5, .int (x5_4 + 1)), (4, .int (x4_4 + (0 : Int32))), (0, .ref (ad 33)), (1, .int a1), (2, .int x2_2), (3, .int x3_3)]) hx hb d_RM_areGood_85 hl (k := 5) rfl rfl (by decide) rfl (fun ls hl => ?_)
                        refine lv_goto (tgt := 54) hx hb d_RM_areGood_88 (by decide) ?_
                        exact ih (x4_4 + (0 : Int32)) (x5_4 + 1) _ _ _ hP hS (lv_sub hl [2, 3, 4, 5, 1, 0] rfl) (fun hn => hs (hf.symm.trans hn)) (fun v ho => hexit v (hf.symm.trans ho))
                      · rw [if_neg c7] at hf
                        refine lv_iconst (v := 1) hx hb d_RM_areGood_77 (by decide) ?_
                        refine lv_goto (tgt := 82) hx hb d_RM_areGood_78 (by decide) ?_
                        refine lv_iadd hx hb d_RM_areGood_82 ?_
                        refine lv_istore (lv' := [(4, .int (x4_4 + (1 : Int32))), (0, .ref (ad 33)), (1, .int a1), (2, .int x2_2), (3, .int x3_3), (5, .int x5_4)]) hx hb d_RM_areGood_83 hl (by decide) rfl (fun ls hl => ?_)
                        refine lv_iinc (v := x5_4 + 1) (lv' := [(5, .int (x5_4 + 1)), (4, .int (x4_4 + (1 : Int32))), (0, .ref (ad 33)), (1, .int a1), (2, .int x2_2), (3, .int x3_3)]) hx hb d_RM_areGood_85 hl (k := 5) rfl rfl (by decide) rfl (fun ls hl => ?_)
                        refine lv_goto (tgt := 54) hx hb d_RM_areGood_88 (by decide) ?_
                        exact ih (x4_4 + (1 : Int32)) (x5_4 + 1) _ _ _ hP hS (lv_sub hl [2, 3, 4, 5, 1, 0] rfl) (fun hn => hs (hf.symm.trans hn)) (fun v ho => hexit v (hf.symm.trans ho))
                refine lp54_4 FU (0 : Int32) (0 : Int32) _ _ _ hP hS (lv_sub hl [2, 3, 4, 5, 1, 0] rfl) (fun hn => ?_) (fun v8 hvv8 H locs ls hP hS hl => ?_)
                · rw [hn] at hf; exact hs hf.symm
                · rw [hvv8, Option.bind_some] at hf
                  refine lv_iload hx hb d_RM_areGood_91 (lv_at hl 4 rfl) ?_
                  refine lv_aload_n hx hb d_RM_areGood_93 rfl (lv_at hl 0 rfl) ?_
                  refine va_get (D := D) (ci := 5) (v := .int (S.1 33 7)) (C := R_RM) (T := T_RM) (N := 13) hx hb ht i_RM hown hK hP 33 Xa_33 rfl 7 (by decide) (ht _ mF_RM_17) (fun _ h9 => h9) rfl d_RM_areGood_94 ?_
                  refine lv_icmp_le (tgt := 102) hx hb d_RM_areGood_97 (by decide) (fun c9 => ?_) (fun c9 => ?_)
                  · rw [if_pos c9] at hf
                    refine lv_iinc (v := x3_3 + 1) (lv' := [(3, .int (x3_3 + 1)), (0, .ref (ad 33)), (1, .int a1), (2, .int x2_2), (4, .int v8)]) hx hb d_RM_areGood_102 hl (k := 3) rfl rfl (by decide) rfl (fun ls hl => ?_)
                    refine lv_goto (tgt := 40) hx hb d_RM_areGood_105 (by decide) ?_
                    exact ih (x3_3 + 1) _ _ _ hP hS (lv_sub hl [1, 2, 3, 0] rfl) (fun hn => hs (hf.symm.trans hn)) (fun o ho => hret o (hf.symm.trans ho)) (fun v ho => hexit v (hf.symm.trans ho))
                  · rw [if_neg c9] at hf
                    refine lv_iconst (v := 0) hx hb d_RM_areGood_100 (by decide) ?_
                    rw [← hQ]
                    have hz : (0 : Int32) = 0 ∨ (0 : Int32) = 1 := Or.inl rfl
                    exact W.zret (v := (0 : Int32)) hx hb hr (zb_n hz) (fun t ht hW => ⟨⟨(0 : Int32), (), rfl, ⟨hret _ hf.symm, hz⟩, by rw [ht]; exact hP, va_K.moved hW.alike hK⟩, hS.F ht⟩) hS.2.2 d_RM_areGood_101
          refine lp40_3 FU (0 : Int32) _ _ _ hP hS (lv_sub hl [1, 2, 3, 0] rfl) (fun hn => ?_) (fun o ho => ?_) (fun v10 hvv10 H locs ls hP hS hl => ?_)
          · rw [hn] at hf; exact hs hf.symm
          · rw [ho, Option.bind_some, Sum.elim_inl] at hf; exact hret _ hf.symm
          · rw [hvv10, Option.bind_some, Sum.elim_inr] at hf
            refine lv_iconst (v := 0) hx hb d_RM_areGood_108 (by decide) ?_
            refine lv_istore_n (lv' := [(3, .int (0 : Int32)), (0, .ref (ad 33)), (1, .int a1), (2, .int x2_2)]) hx hb d_RM_areGood_109 rfl hl (by decide) rfl (fun ls hl => ?_)
            have lp110_5 : ∀ (n : Nat) (x3_5 : Int32) (H : Heap) (locs : List Loc) (ls : Array Slot), va_P D vwCl (X cA ad S) H → va_S A s.heap H locs → lv_has ls 6 [(0, .ref (ad 33)), (1, .int a1), (2, .int x2_2), (3, .int x3_5)] → f_RM_areGood_L110 a1 x2_2 n x3_5 S ≠ none →
                (∀ o : Int32, f_RM_areGood_L110 a1 x2_2 n x3_5 S = some (.inl o) → f_RM_areGood a1 S = some o) →
                (∀ v : Unit, f_RM_areGood_L110 a1 x2_2 n x3_5 S = some (.inr v) → ∀ (H : Heap) (locs : List Loc) (ls : Array Slot), va_P D vwCl (X cA ad S) H → va_S A s.heap H locs → lv_has ls 6 [(0, .ref (ad 33)), (1, .int a1), (2, .int x2_2)] → W p l e (headSpec w_RM_areGood ({ frames := 2, cells := 0, slots := 0, locals := 51 })).room s m ([.ref (ad 33), .int a1] : List Value).toArray below meth c H locs 0 0 Q (F0 m 147 ls [])) →
                W p l e (headSpec w_RM_areGood ({ frames := 2, cells := 0, slots := 0, locals := 51 })).room s m ([.ref (ad 33), .int a1] : List Value).toArray below meth c H locs 0 0 Q (F0 m 110 ls []) := by
              intro n
              induction n with
              | zero => intro x3_5 H locs ls hP hS hl hs; exact absurd rfl hs
              | succ n ih =>
                intro x3_5 H locs ls hP hS hl hs hret hexit
                have hf := (f_RM_areGood_L110_s a1 x2_2 n x3_5 S).symm
                refine lv_iload_n hx hb d_RM_areGood_110 rfl (lv_at hl 3 rfl) ?_
                refine lv_iload_n hx hb d_RM_areGood_111 rfl (lv_at hl 1 rfl) ?_
                refine lv_icmp_ge (tgt := 147) hx hb d_RM_areGood_112 (by decide) (fun c11 => ?_) (fun c11 => ?_)
                · rw [if_pos c11] at hf
                  exact hexit _ hf.symm _ _ _ hP hS (lv_sub hl [0, 1, 2] rfl)
                · rw [if_neg c11] at hf
                  refine lv_aload_n hx hb d_RM_areGood_115 rfl (lv_at hl 0 rfl) ?_
                  refine va_get (D := D) (ci := 5) (v := .ref (ad 34)) (C := R_RM) (T := T_RM) (N := 13) hx hb ht i_RM hown hK hP 33 Xa_33 rfl 5 (by decide) (ht _ mF_RM_7) (fun _ h9 => h9) rfl d_RM_areGood_116 ?_
                  refine lv_bipush (v := 6) hx hb d_RM_areGood_119 (by decide) ?_
                  refine lv_iload_n hx hb d_RM_areGood_121 rfl (lv_at hl 3 rfl) ?_
                  refine lv_imul hx hb d_RM_areGood_122 ?_
                  refine lv_iload_n hx hb d_RM_areGood_123 rfl (lv_at hl 2 rfl) ?_
                  refine lv_iadd hx hb d_RM_areGood_124 ?_
                  by_cases b12 : oob (((6 : Int32) * x3_5) + x2_2) 48
                  · rw [if_pos b12] at hf; exact absurd hf.symm hs
                  rw [if_neg b12] at hf
                  refine va_zald (f := S.1 34) hx hb hK hP 34 4 Xa_34 rfl b12 d_RM_areGood_125 ?_
                  refine lv_if_ne (tgt := 141) hx hb d_RM_areGood_126 (by decide) (fun c13 => ?_) (fun c13 => ?_)
                  · rw [if_neg c13] at hf
                    refine lv_iinc (v := x3_5 + 1) (lv' := [(3, .int (x3_5 + 1)), (0, .ref (ad 33)), (1, .int a1), (2, .int x2_2)]) hx hb d_RM_areGood_141 hl (k := 3) rfl rfl (by decide) rfl (fun ls hl => ?_)
                    refine lv_goto (tgt := 110) hx hb d_RM_areGood_144 (by decide) ?_
                    exact ih (x3_5 + 1) _ _ _ hP hS (lv_sub hl [1, 2, 3, 0] rfl) (fun hn => hs (hf.symm.trans hn)) (fun o ho => hret o (hf.symm.trans ho)) (fun v ho => hexit v (hf.symm.trans ho))
                  · rw [if_pos c13] at hf
                    refine lv_aload_n hx hb d_RM_areGood_129 rfl (lv_at hl 0 rfl) ?_
                    refine lv_iload_n hx hb d_RM_areGood_130 rfl (lv_at hl 1 rfl) ?_
                    refine lv_iload_n hx hb d_RM_areGood_131 rfl (lv_at hl 3 rfl) ?_
                    refine lv_iload_n hx hb d_RM_areGood_132 rfl (lv_at hl 2 rfl) ?_
                    refine va_calli (va_runV (As := [.int a1, .int x3_5, .int x2_2]) (rest := []) ⟨hx, hb, hml, hown, ht⟩ (c_RM_isFitting l D cA ad hI H.size a1 x3_5 x2_2 S (fun hn => hs (by rw [hn] at hf; exact hf.symm))) (cwV 3 ht (good_G (gV mM_RM_71 mI_RM_isFitting mV_RM_isFitting mN_RM mk_RM_isFitting)) rfl rfl rfl (by decide +kernel) ⟨Nat.le_of_ble_eq_true rfl, Nat.le_of_ble_eq_true rfl⟩) ⟨fun a U g mk q => ⟨q.1, q.2.1, q.2.2.1, va_K.moved (u := U) (U := U.calling g mk a) (Vm.Alike.refl U.vm) q.2.2.2⟩, va_recv hK hP (ci := 5) (q0 := 33) rfl Xa_33, fun U hU hW => ⟨rfl, by rw [hU], by rw [hU]; exact hP, va_K.moved hW.alike hK⟩⟩ rfl rfl hl.1 rfl (lv_room (Nat.le_of_ble_eq_true rfl)) d_RM_areGood_133 ⟨Nat.le_of_ble_eq_true rfl, Nat.le_of_ble_eq_true rfl⟩) hS (fun q _ h => hAS _ hS.1 q h) (fun q h => hAS _ hS.1 q h) (fun r3 _ t H locs ht9 hvm hw hB hz1 hk1 hS => ?_)
                    obtain ⟨hP, hK9⟩ := hB
                    rw [ht9] at hP
                    obtain ⟨hw, hz3⟩ := hw
                    rw [hw, Option.bind_some] at hf
                    refine lv_if_eq (tgt := 141) hx hb d_RM_areGood_136 (by decide) (fun c14 => ?_) (fun c14 => ?_)
                    · rw [if_pos c14] at hf
                      refine lv_iinc (v := x3_5 + 1) (lv' := [(3, .int (x3_5 + 1)), (0, .ref (ad 33)), (1, .int a1), (2, .int x2_2)]) hx hb d_RM_areGood_141 hl (k := 3) rfl rfl (by decide) rfl (fun ls hl => ?_)
                      refine lv_goto (tgt := 110) hx hb d_RM_areGood_144 (by decide) ?_
                      exact ih (x3_5 + 1) _ _ _ hP hS (lv_sub hl [1, 2, 3, 0] rfl) (fun hn => hs (hf.symm.trans hn)) (fun o ho => hret o (hf.symm.trans ho)) (fun v ho => hexit v (hf.symm.trans ho))
                    · rw [if_neg c14] at hf
                      refine lv_iconst (v := 0) hx hb d_RM_areGood_139 (by decide) ?_
                      rw [← hQ]
                      have hz : (0 : Int32) = 0 ∨ (0 : Int32) = 1 := Or.inl rfl
                      exact W.zret (v := (0 : Int32)) hx hb hr (zb_n hz) (fun t ht hW => ⟨⟨(0 : Int32), (), rfl, ⟨hret _ hf.symm, hz⟩, by rw [ht]; exact hP, va_K.moved hW.alike hK⟩, hS.F ht⟩) hS.2.2 d_RM_areGood_140
            refine lp110_5 FU (0 : Int32) _ _ _ hP hS (lv_sub hl [1, 2, 3, 0] rfl) (fun hn => ?_) (fun o ho => ?_) (fun v15 hvv15 H locs ls hP hS hl => ?_)
            · rw [hn] at hf; exact hs hf.symm
            · rw [ho, Option.bind_some, Sum.elim_inl] at hf; exact hret _ hf.symm
            · rw [hvv15, Option.bind_some, Sum.elim_inr] at hf
              refine lv_iinc (v := x2_2 + 1) (lv' := [(2, .int (x2_2 + 1)), (0, .ref (ad 33)), (1, .int a1)]) hx hb d_RM_areGood_147 hl (k := 2) rfl rfl (by decide) rfl (fun ls hl => ?_)
              refine lv_goto (tgt := 30) hx hb d_RM_areGood_150 (by decide) ?_
              exact ih (x2_2 + 1) _ _ _ hP hS (lv_sub hl [1, 2, 0] rfl) (fun hn => hs (hf.symm.trans hn)) (fun o ho => hret o (hf.symm.trans ho)) (fun v ho => hexit v (hf.symm.trans ho))
    refine lp30_2 FU (0 : Int32) _ _ _ hP hS (lv_sub hl [1, 2, 0] rfl) (fun hn => ?_) (fun o ho => ?_) (fun v16 hvv16 H locs ls hP hS hl => ?_)
    · rw [hn] at hf; exact hs hf.symm
    · rw [ho, Option.bind_some, Sum.elim_inl] at hf; exact hf.symm
    · rw [hvv16, Option.bind_some, Sum.elim_inr] at hf
      refine lv_iconst (v := 1) hx hb d_RM_areGood_153 (by decide) ?_
      rw [← hQ]
      have hz : (1 : Int32) = 0 ∨ (1 : Int32) = 1 := Or.inr rfl
      exact W.zret (v := (1 : Int32)) hx hb hr (zb_n hz) (fun t ht hW => ⟨⟨(1 : Int32), (), rfl, ⟨hf.symm, hz⟩, by rw [ht]; exact hP, va_K.moved hW.alike hK⟩, hS.F ht⟩) hS.2.2 d_RM_areGood_154
set_option maxHeartbeats 4000000 in
set_option maxRecDepth 100000 in
theorem c_RM_run (l : Launch) (D : va_G) (cA : Nat → ClassId) (ad : Nat → Nat) (hI : InjA ad) (sz : Nat) (a1 : Int32) (S : SS) (hs : f_RM_run a1 S ≠ none) : Met l y_RM_run w_RM_run ({ frames := 3, cells := 0, slots := 0, locals := 76 }) (va_Pc [.ref (ad 33), .int a1] (fun U => U.heap.size = sz ∧ va_P D vwCl (X cA ad S) U.heap ∧ va_K D vwCl (tysX cA) U)) (va_Qi (fun (r : Int32) (u : SS) => f_RM_run a1 S = some (r, u)) (fun (u : SS) t => va_P D vwCl (X cA ad u) t.heap ∧ va_K D vwCl (tysX cA) t) (AS ad sz)) 0 0 (AS ad sz) := by
  refine Met.ofW (cc := b_RM_run) (maxL := 4) (ret := (some .int)) (by decide) rfl ?_
  intro p e s m args below meth c s₁ B hml hv
  obtain ⟨rfl, hsz, hP, hK⟩ := hv
  have hx := B.exec
  have hb := B.bytes
  have hr := B.returns
  have hts := atoms_spec (ws := w_RM_run) B.pre
  have ht := fun w h => hts w (List.mem_cons_of_mem _ h)
  have hown : s.vm.findClass R_RM = some m.cls := findClass_of_methodNamed B.named
  have hlocks := B.notSynchronized
  subst hsz
  have hAd : ∀ q, q < NP → AS ad s.heap.size (ad q) := fun q h => Or.inl ⟨q, h, rfl⟩
  have hA : ∀ q : Nat, s.heap.size ≤ q → AS ad s.heap.size q := fun q h => Or.inr h
  have hAS : ∀ z : Nat, s.heap.size ≤ z → ∀ q : Nat, AS ad z q → AS ad s.heap.size q := fun z h q hq => hq.elim Or.inl (fun g => Or.inr (Nat.le_trans h g))
  generalize hAe : AS ad s.heap.size = A at hAd hA hAS ⊢
  have hS : va_S A s.heap s.heap [] := va_S.rf
  have hl := lv_entry ([.ref (ad 33), .int a1]) (n := 4) (Nat.le_of_ble_eq_true rfl)
  rw [lg_entry_eq]
  generalize (lg_sl ([.ref (ad 33), .int a1]) ++ List.replicate (4 - (lg_sl ([.ref (ad 33), .int a1])).length) Slot.unset).toArray = ls at hl ⊢
  have hl : lv_has ls 4 [(0, .ref (ad 33)), (1, .int a1)] := hl
  have hf := (f_RM_run_s a1 S).symm
  generalize hQ : MQ below _ _ s _ _ _ = Q
  refine lv_aload_n hx hb d_RM_run_0 rfl (lv_at hl 0 rfl) ?_
  refine lv_iload_n hx hb d_RM_run_1 rfl (lv_at hl 1 rfl) ?_
  refine lv_iconst (v := 0) hx hb d_RM_run_2 (by decide) ?_
  refine lv_ldc (v := 200000) hx hb hown (ht _ mC_RM_74) d_RM_run_3 ?_
  refine va_calli (va_runS (As := [.int a1, .int (0 : Int32), .int (200000 : Int32)]) (rest := [.ref (ad 33)]) ⟨hx, hb, hml, hown, ht⟩ (c_RM_isIn l D cA ad hI s.heap.size a1 (0 : Int32) (200000 : Int32) S (fun hn => hs (by rw [hn] at hf; exact hf.symm))) (va_cwS 3 ht (good_G (gS mM_RM_56 mS_RM_isIn mN_RM mk_RM_isIn)) rfl rfl rfl (by decide +kernel) ⟨Nat.le_of_ble_eq_true rfl, Nat.le_of_ble_eq_true rfl⟩) ⟨fun a U g mk q => ⟨q.1, q.2.1, q.2.2.1, va_K.moved (u := U) (U := U.calling g mk a) (Vm.Alike.refl U.vm) q.2.2.2⟩, fun U hU hW => ⟨rfl, by rw [hU], by rw [hU]; exact hP, va_K.moved hW.alike hK⟩⟩ rfl rfl hl.1 rfl (lv_room (Nat.le_of_ble_eq_true rfl)) d_RM_run_5 ⟨Nat.le_of_ble_eq_true rfl, Nat.le_of_ble_eq_true rfl⟩) hS (fun q _ h => hAS _ hS.1 q h) (fun q h => hAS _ hS.1 q h) (fun r1 _ t H locs ht9 hvm hw hB hz1 hk1 hS => ?_)
  obtain ⟨hP, hK9⟩ := hB
  rw [ht9] at hP
  obtain ⟨hw, hz1⟩ := hw
  rw [hw, Option.bind_some] at hf
  refine lv_if_ne (tgt := 15) hx hb d_RM_run_8 (by decide) (fun c1 => ?_) (fun c1 => ?_)
  · rw [if_neg c1] at hf
    refine lv_aload_n hx hb d_RM_run_15 rfl (lv_at hl 0 rfl) ?_
    refine va_get (D := D) (ci := 5) (v := .int (S.1 33 3)) (C := R_RM) (T := T_RM) (N := 13) hx hb ht i_RM hown hK hP 33 Xa_33 rfl 3 (by decide) (ht _ mF_RM_39) (fun _ h9 => h9) rfl d_RM_run_16 ?_
    refine lv_if_ne (tgt := 26) hx hb d_RM_run_19 (by decide) (fun c2 => ?_) (fun c2 => ?_)
    · rw [if_neg c2] at hf
      refine lv_iconst (v := 0) hx hb d_RM_run_26 (by decide) ?_
      refine va_put (D := D) (ci := 5) (v := .int (0 : Int32)) (ty := .int) (C := R_RM) (T := T_RM) (N := 13) hx hb ht i_RM t_RM t_RM_ok n_RM hown hK hP (X_D hI hAd) hS 33 Xa_33 rfl 0 (by decide) (ht _ mF_RM_36) (fun _ h9 => h9) rfl (by decide +kernel) rfl rfl (Nat.le_of_ble_eq_true rfl) d_RM_run_27 (fun H locs hP _ hS => ?_)
      replace hP := X_putI (by decide) hP rfl
      refine lv_aload_n hx hb d_RM_run_30 rfl (lv_at hl 0 rfl) ?_
      refine va_get (D := D) (ci := 5) (v := .int (0 : Int32)) (C := R_RM) (T := T_RM) (N := 13) hx hb ht i_RM hown hK hP 33 Xa_33 rfl 0 (by decide) (ht _ mF_RM_36) (fun _ h9 => h9) rfl d_RM_run_31 ?_
      refine lv_if_le (tgt := 39) hx hb d_RM_run_34 (by decide) (fun c3 => ?_) (fun c3 => absurd c3 (by decide))
      refine lv_aload_n hx hb d_RM_run_39 rfl (lv_at hl 0 rfl) ?_
      refine lv_iconst (v := 0) hx hb d_RM_run_40 (by decide) ?_
      refine va_put (D := D) (ci := 5) (v := .int (0 : Int32)) (ty := .boolean) (C := R_RM) (T := T_RM) (N := 13) hx hb ht i_RM t_RM t_RM_ok n_RM hown hK hP (X_D hI hAd) hS 33 Xa_33 rfl 9 (by decide) (ht _ mF_RM_45) (fun _ h9 => h9) rfl (by decide +kernel) rfl rfl (Nat.le_of_ble_eq_true rfl) d_RM_run_41 (fun H locs hP _ hS => ?_)
      replace hP := X_putI (by decide) hP rfl
      refine lv_aload_n hx hb d_RM_run_44 rfl (lv_at hl 0 rfl) ?_
      refine lv_iconst (v := 0) hx hb d_RM_run_45 (by decide) ?_
      refine va_put (D := D) (ci := 5) (v := .int (0 : Int32)) (ty := .int) (C := R_RM) (T := T_RM) (N := 13) hx hb ht i_RM t_RM t_RM_ok n_RM hown hK hP (X_D hI hAd) hS 33 Xa_33 rfl 10 (by decide) (ht _ mF_RM_75) (fun _ h9 => h9) rfl (by decide +kernel) rfl rfl (Nat.le_of_ble_eq_true rfl) d_RM_run_46 (fun H locs hP _ hS => ?_)
      replace hP := X_putI (by decide) hP rfl
      refine lv_iconst (v := 0) hx hb d_RM_run_49 (by decide) ?_
      refine lv_istore_n (lv' := [(2, .int (0 : Int32)), (0, .ref (ad 33)), (1, .int a1)]) hx hb d_RM_run_50 rfl hl (by decide) rfl (fun ls hl => ?_)
      refine lv_aload_n hx hb d_RM_run_51 rfl (lv_at hl 1 rfl) ?_
      refine va_get (D := D) (ci := 5) (v := .ref (ad 36)) (C := R_RM) (T := T_RM) (N := 13) hx hb ht i_RM hown hK hP 33 Xa_33 rfl 11 (by decide) (ht _ mF_RM_23) (fun _ h9 => h9) rfl d_RM_run_52 ?_
      refine lv_iconst (v := 0) hx hb d_RM_run_55 (by decide) ?_
      refine lv_iconst (v := (-1)) hx hb d_RM_run_56 (by decide) ?_
      by_cases b4 : oob (0 : Int32) 48
      · rw [if_pos b4] at hf; exact absurd hf.symm hs
      rw [if_neg b4] at hf
      refine va_iast hx hb hK hP (X_D hI hAd) hS 36 0 Xa_36 rfl b4 d_RM_run_57 (fun H locs hP _ hS => ?_)
      replace hP := X_stI (by decide) Xc_36 hP
      have lp58_1 : ∀ (n : Nat) (x2_1 : Int32) (Sx : SS) (H : Heap) (locs : List Loc) (ls : Array Slot), va_P D vwCl (X cA ad Sx) H → va_S A s.heap H locs → lv_has ls 4 [(0, .ref (ad 33)), (1, .int a1), (2, .int x2_1)] → f_RM_run_L58 a1 n x2_1 Sx ≠ none →
          (∀ o : Int32 × SS, f_RM_run_L58 a1 n x2_1 Sx = some (.inl o) → f_RM_run a1 S = some o) →
          (∀ v : Int32 × SS, f_RM_run_L58 a1 n x2_1 Sx = some (.inr v) → ∀ (H : Heap) (locs : List Loc) (ls : Array Slot), va_P D vwCl (X cA ad v.2) H → va_S A s.heap H locs → lv_has ls 4 [(0, .ref (ad 33)), (1, .int a1), (2, .int v.1)] → W p l e (headSpec w_RM_run ({ frames := 3, cells := 0, slots := 0, locals := 76 })).room s m ([.ref (ad 33), .int a1] : List Value).toArray below meth c H locs 0 0 Q (F0 m 239 ls [])) →
          W p l e (headSpec w_RM_run ({ frames := 3, cells := 0, slots := 0, locals := 76 })).room s m ([.ref (ad 33), .int a1] : List Value).toArray below meth c H locs 0 0 Q (F0 m 58 ls []) := by
        intro n
        induction n with
        | zero => intro x2_1 Sx H locs ls hP hS hl hs; exact absurd rfl hs
        | succ n ih =>
          intro x2_1 Sx H locs ls hP hS hl hs hret hexit
          have hf := (f_RM_run_L58_s a1 n x2_1 Sx).symm
          refine lv_iload_n hx hb d_RM_run_58 rfl (lv_at hl 2 rfl) ?_
          refine lv_if_lt (tgt := 239) hx hb d_RM_run_59 (by decide) (fun c5 => ?_) (fun c5 => ?_)
          · rw [if_pos c5] at hf
            exact hexit _ hf.symm _ _ _ hP hS (lv_sub hl [0, 1, 2] rfl)
          · rw [if_neg c5] at hf
            refine lv_iload_n hx hb d_RM_run_62 rfl (lv_at hl 2 rfl) ?_
            refine lv_aload_n hx hb d_RM_run_63 rfl (lv_at hl 0 rfl) ?_
            refine va_get (D := D) (ci := 5) (v := .int (Sx.1 33 1)) (C := R_RM) (T := T_RM) (N := 13) hx hb ht i_RM hown hK hP 33 Xa_33 rfl 1 (by decide) (ht _ mF_RM_30) (fun _ h9 => h9) rfl d_RM_run_64 ?_
            refine lv_aload_n hx hb d_RM_run_67 rfl (lv_at hl 0 rfl) ?_
            refine va_get (D := D) (ci := 5) (v := .int (Sx.1 33 3)) (C := R_RM) (T := T_RM) (N := 13) hx hb ht i_RM hown hK hP 33 Xa_33 rfl 3 (by decide) (ht _ mF_RM_39) (fun _ h9 => h9) rfl d_RM_run_68 ?_
            refine lv_imul hx hb d_RM_run_71 ?_
            refine lv_icmp_ge (tgt := 239) hx hb d_RM_run_72 (by decide) (fun c6 => ?_) (fun c6 => ?_)
            · rw [if_pos c6] at hf
              exact hexit _ hf.symm _ _ _ hP hS (lv_sub hl [0, 1, 2] rfl)
            · rw [if_neg c6] at hf
              refine lv_aload_n hx hb d_RM_run_75 rfl (lv_at hl 0 rfl) ?_
              refine va_get (D := D) (ci := 5) (v := .ref (ad 36)) (C := R_RM) (T := T_RM) (N := 13) hx hb ht i_RM hown hK hP 33 Xa_33 rfl 11 (by decide) (ht _ mF_RM_23) (fun _ h9 => h9) rfl d_RM_run_76 ?_
              refine lv_iload_n hx hb d_RM_run_79 rfl (lv_at hl 2 rfl) ?_
              refine lv_dup2_11 hx hb d_RM_run_80 rfl rfl ?_
              by_cases b7 : oob x2_1 48
              · rw [if_pos b7] at hf; exact absurd hf.symm hs
              rw [if_neg b7] at hf
              refine va_iald (f := Sx.1 36) hx hb hK hP 36 0 Xa_36 rfl b7 d_RM_run_81 ?_
              refine lv_iconst (v := 1) hx hb d_RM_run_82 (by decide) ?_
              refine lv_iadd hx hb d_RM_run_83 ?_
              refine va_iast hx hb hK hP (X_D hI hAd) hS 36 0 Xa_36 rfl b7 d_RM_run_84 (fun H locs hP _ hS => ?_)
              replace hP := X_stI (by decide) Xc_36 hP
              refine lv_aload_n hx hb d_RM_run_85 rfl (lv_at hl 0 rfl) ?_
              refine va_get (D := D) (ci := 5) (v := .ref (ad 36)) (C := R_RM) (T := T_RM) (N := 13) hx hb ht i_RM hown hK hP 33 Xa_33 rfl 11 (by decide) (ht _ mF_RM_23) (fun _ h9 => h9) rfl d_RM_run_86 ?_
              refine lv_iload_n hx hb d_RM_run_89 rfl (lv_at hl 2 rfl) ?_
              refine va_iald (f := (wI Sx 36 x2_1.toNatClampNeg ((Sx.1 36 x2_1.toNatClampNeg) + (1 : Int32))).1 36) hx hb hK hP 36 0 Xa_36 rfl b7 d_RM_run_90 ?_
              refine lv_aload_n hx hb d_RM_run_91 rfl (lv_at hl 0 rfl) ?_
              refine va_get (D := D) (ci := 5) (v := .int (Sx.1 33 2)) (C := R_RM) (T := T_RM) (N := 13) hx hb ht i_RM hown hK hP 33 Xa_33 rfl 2 (by decide) (ht _ mF_RM_33) (fun _ h9 => h9) rfl d_RM_run_92 ?_
              refine lv_icmp_ne (tgt := 104) hx hb d_RM_run_95 (by decide) (fun c8 => ?_) (fun c8 => ?_)
              · rw [if_neg c8] at hf
                refine lv_aload_n hx hb d_RM_run_104 rfl (lv_at hl 0 rfl) ?_
                refine va_get (D := D) (ci := 5) (v := .int (Sx.1 33 10)) (C := R_RM) (T := T_RM) (N := 13) hx hb ht i_RM hown hK hP 33 Xa_33 rfl 10 (by decide) (ht _ mF_RM_75) (fun _ h9 => h9) rfl d_RM_run_105 ?_
                refine lv_iload_n hx hb d_RM_run_108 rfl (lv_at hl 1 rfl) ?_
                refine lv_icmp_ne (tgt := 114) hx hb d_RM_run_109 (by decide) (fun c9 => ?_) (fun c9 => ?_)
                · rw [if_neg c9] at hf
                  refine lv_aload_n hx hb d_RM_run_114 rfl (lv_at hl 0 rfl) ?_
                  refine lv_dup hx hb d_RM_run_115 rfl ?_
                  refine va_get (D := D) (ci := 5) (v := .int (Sx.1 33 10)) (C := R_RM) (T := T_RM) (N := 13) hx hb ht i_RM hown hK hP 33 Xa_33 rfl 10 (by decide) (ht _ mF_RM_75) (fun _ h9 => h9) rfl d_RM_run_116 ?_
                  refine lv_iconst (v := 1) hx hb d_RM_run_119 (by decide) ?_
                  refine lv_iadd hx hb d_RM_run_120 ?_
                  refine va_put (D := D) (ci := 5) (v := .int ((Sx.1 33 10) + (1 : Int32))) (ty := .int) (C := R_RM) (T := T_RM) (N := 13) hx hb ht i_RM t_RM t_RM_ok n_RM hown hK hP (X_D hI hAd) hS 33 Xa_33 rfl 10 (by decide) (ht _ mF_RM_75) (fun _ h9 => h9) rfl (by decide +kernel) rfl rfl (Nat.le_of_ble_eq_true rfl) d_RM_run_121 (fun H locs hP _ hS => ?_)
                  replace hP := X_putI (by decide) hP rfl
                  refine lv_iload_n hx hb d_RM_run_124 rfl (lv_at hl 2 rfl) ?_
                  refine lv_aload_n hx hb d_RM_run_125 rfl (lv_at hl 0 rfl) ?_
                  refine va_get (D := D) (ci := 5) (v := .int (Sx.1 33 1)) (C := R_RM) (T := T_RM) (N := 13) hx hb ht i_RM hown hK hP 33 Xa_33 rfl 1 (by decide) (ht _ mF_RM_30) (fun _ h9 => h9) rfl d_RM_run_126 ?_
                  by_cases b10 : (Sx.1 33 1) = 0
                  · rw [if_pos b10] at hf; exact absurd hf.symm hs
                  rw [if_neg b10] at hf
                  refine lv_irem hx hb d_RM_run_129 b10 ?_
                  refine lv_if_eq (tgt := 154) hx hb d_RM_run_130 (by decide) (fun c11 => ?_) (fun c11 => ?_)
                  · rw [if_pos c11] at hf
                    refine lv_iconst (v := 1) hx hb d_RM_run_154 (by decide) ?_
                    refine lv_goto (tgt := 159) hx hb d_RM_run_155 (by decide) ?_
                    refine lv_istore_n (lv' := [(3, .int (1 : Int32)), (0, .ref (ad 33)), (1, .int a1), (2, .int x2_1)]) hx hb d_RM_run_159 rfl hl (by decide) rfl (fun ls hl => ?_)
                    refine lv_iload_n hx hb d_RM_run_160 rfl (lv_at hl 0 rfl) ?_
                    refine lv_if_eq (tgt := 198) hx hb d_RM_run_161 (by decide) (fun c12 => absurd c12 (by decide)) (fun c12 => ?_)
                    refine lv_iload_n hx hb d_RM_run_164 rfl (lv_at hl 3 rfl) ?_
                    refine lv_aload_n hx hb d_RM_run_165 rfl (lv_at hl 1 rfl) ?_
                    refine va_get (D := D) (ci := 5) (v := .int (Sx.1 33 1)) (C := R_RM) (T := T_RM) (N := 13) hx hb ht i_RM hown hK hP 33 Xa_33 rfl 1 (by decide) (ht _ mF_RM_30) (fun _ h9 => h9) rfl d_RM_run_166 ?_
                    refine lv_irem hx hb d_RM_run_169 b10 ?_
                    refine lv_aload_n hx hb d_RM_run_170 rfl (lv_at hl 1 rfl) ?_
                    refine va_get (D := D) (ci := 5) (v := .int (Sx.1 33 1)) (C := R_RM) (T := T_RM) (N := 13) hx hb ht i_RM hown hK hP 33 Xa_33 rfl 1 (by decide) (ht _ mF_RM_30) (fun _ h9 => h9) rfl d_RM_run_171 ?_
                    refine lv_iconst (v := 1) hx hb d_RM_run_174 (by decide) ?_
                    refine lv_isub hx hb d_RM_run_175 ?_
                    refine lv_icmp_lt (tgt := 194) hx hb d_RM_run_176 (by decide) (fun c13 => ?_) (fun c13 => ?_)
                    · rw [if_pos c13] at hf
                      refine lv_iconst (v := 1) hx hb d_RM_run_194 (by decide) ?_
                      refine lv_goto (tgt := 199) hx hb d_RM_run_195 (by decide) ?_
                      refine lv_istore_n (lv' := [(3, .int (1 : Int32)), (0, .ref (ad 33)), (1, .int a1), (2, .int x2_1)]) hx hb d_RM_run_199 rfl hl (by decide) rfl (fun ls hl => ?_)
                      refine lv_iload_n hx hb d_RM_run_200 rfl (lv_at hl 0 rfl) ?_
                      refine lv_if_eq (tgt := 210) hx hb d_RM_run_201 (by decide) (fun c14 => absurd c14 (by decide)) (fun c14 => ?_)
                      refine lv_iload_n hx hb d_RM_run_204 rfl (lv_at hl 3 rfl) ?_
                      refine lv_iconst (v := 1) hx hb d_RM_run_205 (by decide) ?_
                      refine lv_iadd hx hb d_RM_run_206 ?_
                      refine lv_goto (tgt := 211) hx hb d_RM_run_207 (by decide) ?_
                      refine lv_istore_n (lv' := [(2, .int (x2_1 + (1 : Int32))), (3, .int (1 : Int32)), (0, .ref (ad 33)), (1, .int a1)]) hx hb d_RM_run_211 rfl hl (by decide) rfl (fun ls hl => ?_)
                      refine lv_iload_n hx hb d_RM_run_212 rfl (lv_at hl 1 rfl) ?_
                      refine lv_if_eq (tgt := 236) hx hb d_RM_run_213 (by decide) (fun c15 => absurd c15 (by decide)) (fun c15 => ?_)
                      refine lv_iload_n hx hb d_RM_run_216 rfl (lv_at hl 0 rfl) ?_
                      refine lv_aload_n hx hb d_RM_run_217 rfl (lv_at hl 2 rfl) ?_
                      refine va_get (D := D) (ci := 5) (v := .int (Sx.1 33 1)) (C := R_RM) (T := T_RM) (N := 13) hx hb ht i_RM hown hK hP 33 Xa_33 rfl 1 (by decide) (ht _ mF_RM_30) (fun _ h9 => h9) rfl d_RM_run_218 ?_
                      refine lv_aload_n hx hb d_RM_run_221 rfl (lv_at hl 2 rfl) ?_
                      refine va_get (D := D) (ci := 5) (v := .int (Sx.1 33 3)) (C := R_RM) (T := T_RM) (N := 13) hx hb ht i_RM hown hK hP 33 Xa_33 rfl 3 (by decide) (ht _ mF_RM_39) (fun _ h9 => h9) rfl d_RM_run_222 ?_
                      refine lv_imul hx hb d_RM_run_225 ?_
                      refine lv_icmp_ge (tgt := 236) hx hb d_RM_run_226 (by decide) (fun c16 => ?_) (fun c16 => ?_)
                      · rw [if_pos c16] at hf
                        refine lv_goto (tgt := 58) hx hb d_RM_run_236 (by decide) ?_
                        exact ih (x2_1 + (1 : Int32)) (wI (wI Sx 36 x2_1.toNatClampNeg ((Sx.1 36 x2_1.toNatClampNeg) + (1 : Int32))) 33 10 ((Sx.1 33 10) + (1 : Int32))) _ _ _ hP hS (lv_sub hl [2, 3, 0] rfl) (fun hn => hs (hf.symm.trans hn)) (fun o ho => hret o (hf.symm.trans ho)) (fun v ho => hexit v (hf.symm.trans ho))
                      · rw [if_neg c16] at hf
                        refine lv_aload_n hx hb d_RM_run_229 rfl (lv_at hl 2 rfl) ?_
                        refine va_get (D := D) (ci := 5) (v := .ref (ad 36)) (C := R_RM) (T := T_RM) (N := 13) hx hb ht i_RM hown hK hP 33 Xa_33 rfl 11 (by decide) (ht _ mF_RM_23) (fun _ h9 => h9) rfl d_RM_run_230 ?_
                        refine lv_iload_n hx hb d_RM_run_233 rfl (lv_at hl 0 rfl) ?_
                        refine lv_iconst (v := (-1)) hx hb d_RM_run_234 (by decide) ?_
                        by_cases b17 : oob (x2_1 + (1 : Int32)) 48
                        · rw [if_pos b17] at hf; exact absurd hf.symm hs
                        rw [if_neg b17] at hf
                        refine va_iast hx hb hK hP (X_D hI hAd) hS 36 0 Xa_36 rfl b17 d_RM_run_235 (fun H locs hP _ hS => ?_)
                        replace hP := X_stI (by decide) Xc_36 hP
                        refine lv_goto (tgt := 58) hx hb d_RM_run_236 (by decide) ?_
                        exact ih (x2_1 + (1 : Int32)) (wI (wI (wI Sx 36 x2_1.toNatClampNeg ((Sx.1 36 x2_1.toNatClampNeg) + (1 : Int32))) 33 10 ((Sx.1 33 10) + (1 : Int32))) 36 (x2_1 + (1 : Int32)).toNatClampNeg (-1 : Int32)) _ _ _ hP hS (lv_sub hl [2, 3, 0] rfl) (fun hn => hs (hf.symm.trans hn)) (fun o ho => hret o (hf.symm.trans ho)) (fun v ho => hexit v (hf.symm.trans ho))
                    · rw [if_neg c13] at hf
                      refine lv_aload_n hx hb d_RM_run_179 rfl (lv_at hl 1 rfl) ?_
                      refine lv_iload_n hx hb d_RM_run_180 rfl (lv_at hl 3 rfl) ?_
                      refine lv_aload_n hx hb d_RM_run_181 rfl (lv_at hl 1 rfl) ?_
                      refine va_get (D := D) (ci := 5) (v := .int (Sx.1 33 1)) (C := R_RM) (T := T_RM) (N := 13) hx hb ht i_RM hown hK hP 33 Xa_33 rfl 1 (by decide) (ht _ mF_RM_30) (fun _ h9 => h9) rfl d_RM_run_182 ?_
                      refine lv_idiv hx hb d_RM_run_185 b10 ?_
                      refine lv_iconst (v := 1) hx hb d_RM_run_186 (by decide) ?_
                      refine lv_iadd hx hb d_RM_run_187 ?_
                      refine va_calli (va_runV (As := [.int ((x2_1 / (Sx.1 33 1)) + (1 : Int32))]) (rest := []) ⟨hx, hb, hml, hown, ht⟩ (c_RM_areGood l D cA ad hI H.size ((x2_1 / (Sx.1 33 1)) + (1 : Int32)) (wI (wI Sx 36 x2_1.toNatClampNeg ((Sx.1 36 x2_1.toNatClampNeg) + (1 : Int32))) 33 10 ((Sx.1 33 10) + (1 : Int32))) (fun hn => hs (by rw [hn] at hf; exact hf.symm))) (cwV 1 ht (good_G (gV mM_RM_81 mI_RM_areGood mV_RM_areGood mN_RM mk_RM_areGood)) rfl rfl rfl (by decide +kernel) ⟨Nat.le_of_ble_eq_true rfl, Nat.le_of_ble_eq_true rfl⟩) ⟨fun a U g mk q => ⟨q.1, q.2.1, q.2.2.1, va_K.moved (u := U) (U := U.calling g mk a) (Vm.Alike.refl U.vm) q.2.2.2⟩, va_recv hK hP (ci := 5) (q0 := 33) rfl Xa_33, fun U hU hW => ⟨rfl, by rw [hU], by rw [hU]; exact hP, va_K.moved hW.alike hK⟩⟩ rfl rfl hl.1 rfl (lv_room (Nat.le_of_ble_eq_true rfl)) d_RM_run_188 ⟨Nat.le_of_ble_eq_true rfl, Nat.le_of_ble_eq_true rfl⟩) hS (fun q _ h => hAS _ hS.1 q h) (fun q h => hAS _ hS.1 q h) (fun r2 _ t H locs ht9 hvm hw hB hz1 hk1 hS => ?_)
                      obtain ⟨hP, hK9⟩ := hB
                      rw [ht9] at hP
                      obtain ⟨hw, hz2⟩ := hw
                      rw [hw, Option.bind_some] at hf
                      refine lv_if_eq (tgt := 198) hx hb d_RM_run_191 (by decide) (fun c18 => ?_) (fun c18 => ?_)
                      · rw [if_pos c18] at hf
                        refine lv_iconst (v := 0) hx hb d_RM_run_198 (by decide) ?_
                        refine lv_istore_n (lv' := [(3, .int (0 : Int32)), (0, .ref (ad 33)), (1, .int a1), (2, .int x2_1)]) hx hb d_RM_run_199 rfl hl (by decide) rfl (fun ls hl => ?_)
                        refine lv_iload_n hx hb d_RM_run_200 rfl (lv_at hl 0 rfl) ?_
                        refine lv_if_eq (tgt := 210) hx hb d_RM_run_201 (by decide) (fun c19 => ?_) (fun c19 => absurd c19 (by decide))
                        refine lv_iload_n hx hb d_RM_run_210 rfl (lv_at hl 3 rfl) ?_
                        refine lv_istore_n (lv' := [(2, .int x2_1), (3, .int (0 : Int32)), (0, .ref (ad 33)), (1, .int a1)]) hx hb d_RM_run_211 rfl hl (by decide) rfl (fun ls hl => ?_)
                        refine lv_iload_n hx hb d_RM_run_212 rfl (lv_at hl 1 rfl) ?_
                        refine lv_if_eq (tgt := 236) hx hb d_RM_run_213 (by decide) (fun c20 => ?_) (fun c20 => absurd c20 (by decide))
                        refine lv_goto (tgt := 58) hx hb d_RM_run_236 (by decide) ?_
                        exact ih x2_1 (wI (wI Sx 36 x2_1.toNatClampNeg ((Sx.1 36 x2_1.toNatClampNeg) + (1 : Int32))) 33 10 ((Sx.1 33 10) + (1 : Int32))) _ _ _ hP hS (lv_sub hl [2, 3, 0] rfl) (fun hn => hs (hf.symm.trans hn)) (fun o ho => hret o (hf.symm.trans ho)) (fun v ho => hexit v (hf.symm.trans ho))
                      · rw [if_neg c18] at hf
                        refine lv_iconst (v := 1) hx hb d_RM_run_194 (by decide) ?_
                        refine lv_goto (tgt := 199) hx hb d_RM_run_195 (by decide) ?_
                        refine lv_istore_n (lv' := [(3, .int (1 : Int32)), (0, .ref (ad 33)), (1, .int a1), (2, .int x2_1)]) hx hb d_RM_run_199 rfl hl (by decide) rfl (fun ls hl => ?_)
                        refine lv_iload_n hx hb d_RM_run_200 rfl (lv_at hl 0 rfl) ?_
                        refine lv_if_eq (tgt := 210) hx hb d_RM_run_201 (by decide) (fun c21 => absurd c21 (by decide)) (fun c21 => ?_)
                        refine lv_iload_n hx hb d_RM_run_204 rfl (lv_at hl 3 rfl) ?_
                        refine lv_iconst (v := 1) hx hb d_RM_run_205 (by decide) ?_
                        refine lv_iadd hx hb d_RM_run_206 ?_
                        refine lv_goto (tgt := 211) hx hb d_RM_run_207 (by decide) ?_
                        refine lv_istore_n (lv' := [(2, .int (x2_1 + (1 : Int32))), (3, .int (1 : Int32)), (0, .ref (ad 33)), (1, .int a1)]) hx hb d_RM_run_211 rfl hl (by decide) rfl (fun ls hl => ?_)
                        refine lv_iload_n hx hb d_RM_run_212 rfl (lv_at hl 1 rfl) ?_
                        refine lv_if_eq (tgt := 236) hx hb d_RM_run_213 (by decide) (fun c22 => absurd c22 (by decide)) (fun c22 => ?_)
                        refine lv_iload_n hx hb d_RM_run_216 rfl (lv_at hl 0 rfl) ?_
                        refine lv_aload_n hx hb d_RM_run_217 rfl (lv_at hl 2 rfl) ?_
                        refine va_get (D := D) (ci := 5) (v := .int (Sx.1 33 1)) (C := R_RM) (T := T_RM) (N := 13) hx hb ht i_RM hown hK hP 33 Xa_33 rfl 1 (by decide) (ht _ mF_RM_30) (fun _ h9 => h9) rfl d_RM_run_218 ?_
                        refine lv_aload_n hx hb d_RM_run_221 rfl (lv_at hl 2 rfl) ?_
                        refine va_get (D := D) (ci := 5) (v := .int (Sx.1 33 3)) (C := R_RM) (T := T_RM) (N := 13) hx hb ht i_RM hown hK hP 33 Xa_33 rfl 3 (by decide) (ht _ mF_RM_39) (fun _ h9 => h9) rfl d_RM_run_222 ?_
                        refine lv_imul hx hb d_RM_run_225 ?_
                        refine lv_icmp_ge (tgt := 236) hx hb d_RM_run_226 (by decide) (fun c23 => ?_) (fun c23 => ?_)
                        · rw [if_pos c23] at hf
                          refine lv_goto (tgt := 58) hx hb d_RM_run_236 (by decide) ?_
                          exact ih (x2_1 + (1 : Int32)) (wI (wI Sx 36 x2_1.toNatClampNeg ((Sx.1 36 x2_1.toNatClampNeg) + (1 : Int32))) 33 10 ((Sx.1 33 10) + (1 : Int32))) _ _ _ hP hS (lv_sub hl [2, 3, 0] rfl) (fun hn => hs (hf.symm.trans hn)) (fun o ho => hret o (hf.symm.trans ho)) (fun v ho => hexit v (hf.symm.trans ho))
                        · rw [if_neg c23] at hf
                          refine lv_aload_n hx hb d_RM_run_229 rfl (lv_at hl 2 rfl) ?_
                          refine va_get (D := D) (ci := 5) (v := .ref (ad 36)) (C := R_RM) (T := T_RM) (N := 13) hx hb ht i_RM hown hK hP 33 Xa_33 rfl 11 (by decide) (ht _ mF_RM_23) (fun _ h9 => h9) rfl d_RM_run_230 ?_
                          refine lv_iload_n hx hb d_RM_run_233 rfl (lv_at hl 0 rfl) ?_
                          refine lv_iconst (v := (-1)) hx hb d_RM_run_234 (by decide) ?_
                          by_cases b24 : oob (x2_1 + (1 : Int32)) 48
                          · rw [if_pos b24] at hf; exact absurd hf.symm hs
                          rw [if_neg b24] at hf
                          refine va_iast hx hb hK hP (X_D hI hAd) hS 36 0 Xa_36 rfl b24 d_RM_run_235 (fun H locs hP _ hS => ?_)
                          replace hP := X_stI (by decide) Xc_36 hP
                          refine lv_goto (tgt := 58) hx hb d_RM_run_236 (by decide) ?_
                          exact ih (x2_1 + (1 : Int32)) (wI (wI (wI Sx 36 x2_1.toNatClampNeg ((Sx.1 36 x2_1.toNatClampNeg) + (1 : Int32))) 33 10 ((Sx.1 33 10) + (1 : Int32))) 36 (x2_1 + (1 : Int32)).toNatClampNeg (-1 : Int32)) _ _ _ hP hS (lv_sub hl [2, 3, 0] rfl) (fun hn => hs (hf.symm.trans hn)) (fun o ho => hret o (hf.symm.trans ho)) (fun v ho => hexit v (hf.symm.trans ho))
                  · rw [if_neg c11] at hf
                    refine lv_aload_n hx hb d_RM_run_133 rfl (lv_at hl 0 rfl) ?_
                    refine lv_aload_n hx hb d_RM_run_134 rfl (lv_at hl 0 rfl) ?_
                    refine va_get (D := D) (ci := 5) (v := .ref (ad 36)) (C := R_RM) (T := T_RM) (N := 13) hx hb ht i_RM hown hK hP 33 Xa_33 rfl 11 (by decide) (ht _ mF_RM_23) (fun _ h9 => h9) rfl d_RM_run_135 ?_
                    refine lv_iload_n hx hb d_RM_run_138 rfl (lv_at hl 2 rfl) ?_
                    refine lv_iconst (v := 1) hx hb d_RM_run_139 (by decide) ?_
                    refine lv_isub hx hb d_RM_run_140 ?_
                    by_cases b25 : oob (x2_1 - (1 : Int32)) 48
                    · rw [if_pos b25] at hf; exact absurd hf.symm hs
                    rw [if_neg b25] at hf
                    refine va_iald (f := (wI Sx 36 x2_1.toNatClampNeg ((Sx.1 36 x2_1.toNatClampNeg) + (1 : Int32))).1 36) hx hb hK hP 36 0 Xa_36 rfl b25 d_RM_run_141 ?_
                    refine lv_aload_n hx hb d_RM_run_142 rfl (lv_at hl 0 rfl) ?_
                    refine va_get (D := D) (ci := 5) (v := .ref (ad 36)) (C := R_RM) (T := T_RM) (N := 13) hx hb ht i_RM hown hK hP 33 Xa_33 rfl 11 (by decide) (ht _ mF_RM_23) (fun _ h9 => h9) rfl d_RM_run_143 ?_
                    refine lv_iload_n hx hb d_RM_run_146 rfl (lv_at hl 2 rfl) ?_
                    refine va_iald (f := (wI Sx 36 x2_1.toNatClampNeg ((Sx.1 36 x2_1.toNatClampNeg) + (1 : Int32))).1 36) hx hb hK hP 36 0 Xa_36 rfl b7 d_RM_run_147 ?_
                    refine va_calli (va_runV (As := [.int ((wI Sx 36 x2_1.toNatClampNeg ((Sx.1 36 x2_1.toNatClampNeg) + (1 : Int32))).1 36 (x2_1 - (1 : Int32)).toNatClampNeg), .int ((wI Sx 36 x2_1.toNatClampNeg ((Sx.1 36 x2_1.toNatClampNeg) + (1 : Int32))).1 36 x2_1.toNatClampNeg)]) (rest := []) ⟨hx, hb, hml, hown, ht⟩ (c_RM_mayStand l D cA ad hI H.size ((wI Sx 36 x2_1.toNatClampNeg ((Sx.1 36 x2_1.toNatClampNeg) + (1 : Int32))).1 36 (x2_1 - (1 : Int32)).toNatClampNeg) ((wI Sx 36 x2_1.toNatClampNeg ((Sx.1 36 x2_1.toNatClampNeg) + (1 : Int32))).1 36 x2_1.toNatClampNeg) (wI (wI Sx 36 x2_1.toNatClampNeg ((Sx.1 36 x2_1.toNatClampNeg) + (1 : Int32))) 33 10 ((Sx.1 33 10) + (1 : Int32))) (fun hn => hs (by rw [hn] at hf; exact hf.symm))) (cwV 2 ht (good_G (gV mM_RM_78 mI_RM_mayStand mV_RM_mayStand mN_RM mk_RM_mayStand)) rfl rfl rfl (by decide +kernel) ⟨Nat.le_of_ble_eq_true rfl, Nat.le_of_ble_eq_true rfl⟩) ⟨fun a U g mk q => ⟨q.1, q.2.1, q.2.2.1, va_K.moved (u := U) (U := U.calling g mk a) (Vm.Alike.refl U.vm) q.2.2.2⟩, va_recv hK hP (ci := 5) (q0 := 33) rfl Xa_33, fun U hU hW => ⟨rfl, by rw [hU], by rw [hU]; exact hP, va_K.moved hW.alike hK⟩⟩ rfl rfl hl.1 rfl (lv_room (Nat.le_of_ble_eq_true rfl)) d_RM_run_148 ⟨Nat.le_of_ble_eq_true rfl, Nat.le_of_ble_eq_true rfl⟩) hS (fun q _ h => hAS _ hS.1 q h) (fun q h => hAS _ hS.1 q h) (fun r3 _ t H locs ht9 hvm hw hB hz1 hk1 hS => ?_)
                    obtain ⟨hP, hK9⟩ := hB
                    rw [ht9] at hP
                    obtain ⟨hw, hz3⟩ := hw
                    rw [hw, Option.bind_some] at hf
                    refine lv_if_eq (tgt := 158) hx hb d_RM_run_151 (by decide) (fun c26 => ?_) (fun c26 => ?_)
                    · rw [if_pos c26] at hf
                      refine lv_iconst (v := 0) hx hb d_RM_run_158 (by decide) ?_
                      refine lv_istore_n (lv' := [(3, .int (0 : Int32)), (0, .ref (ad 33)), (1, .int a1), (2, .int x2_1)]) hx hb d_RM_run_159 rfl hl (by decide) rfl (fun ls hl => ?_)
                      refine lv_iload_n hx hb d_RM_run_160 rfl (lv_at hl 0 rfl) ?_
                      refine lv_if_eq (tgt := 198) hx hb d_RM_run_161 (by decide) (fun c27 => ?_) (fun c27 => absurd c27 (by decide))
                      refine lv_iconst (v := 0) hx hb d_RM_run_198 (by decide) ?_
                      refine lv_istore_n (lv' := [(3, .int (0 : Int32)), (0, .ref (ad 33)), (1, .int a1), (2, .int x2_1)]) hx hb d_RM_run_199 rfl hl (by decide) rfl (fun ls hl => ?_)
                      refine lv_iload_n hx hb d_RM_run_200 rfl (lv_at hl 0 rfl) ?_
                      refine lv_if_eq (tgt := 210) hx hb d_RM_run_201 (by decide) (fun c28 => ?_) (fun c28 => absurd c28 (by decide))
                      refine lv_iload_n hx hb d_RM_run_210 rfl (lv_at hl 3 rfl) ?_
                      refine lv_istore_n (lv' := [(2, .int x2_1), (3, .int (0 : Int32)), (0, .ref (ad 33)), (1, .int a1)]) hx hb d_RM_run_211 rfl hl (by decide) rfl (fun ls hl => ?_)
                      refine lv_iload_n hx hb d_RM_run_212 rfl (lv_at hl 1 rfl) ?_
                      refine lv_if_eq (tgt := 236) hx hb d_RM_run_213 (by decide) (fun c29 => ?_) (fun c29 => absurd c29 (by decide))
                      refine lv_goto (tgt := 58) hx hb d_RM_run_236 (by decide) ?_
                      exact ih x2_1 (wI (wI Sx 36 x2_1.toNatClampNeg ((Sx.1 36 x2_1.toNatClampNeg) + (1 : Int32))) 33 10 ((Sx.1 33 10) + (1 : Int32))) _ _ _ hP hS (lv_sub hl [2, 3, 0] rfl) (fun hn => hs (hf.symm.trans hn)) (fun o ho => hret o (hf.symm.trans ho)) (fun v ho => hexit v (hf.symm.trans ho))
                    · rw [if_neg c26] at hf
                      refine lv_iconst (v := 1) hx hb d_RM_run_154 (by decide) ?_
                      refine lv_goto (tgt := 159) hx hb d_RM_run_155 (by decide) ?_
                      refine lv_istore_n (lv' := [(3, .int (1 : Int32)), (0, .ref (ad 33)), (1, .int a1), (2, .int x2_1)]) hx hb d_RM_run_159 rfl hl (by decide) rfl (fun ls hl => ?_)
                      refine lv_iload_n hx hb d_RM_run_160 rfl (lv_at hl 0 rfl) ?_
                      refine lv_if_eq (tgt := 198) hx hb d_RM_run_161 (by decide) (fun c30 => absurd c30 (by decide)) (fun c30 => ?_)
                      refine lv_iload_n hx hb d_RM_run_164 rfl (lv_at hl 3 rfl) ?_
                      refine lv_aload_n hx hb d_RM_run_165 rfl (lv_at hl 1 rfl) ?_
                      refine va_get (D := D) (ci := 5) (v := .int (Sx.1 33 1)) (C := R_RM) (T := T_RM) (N := 13) hx hb ht i_RM hown hK hP 33 Xa_33 rfl 1 (by decide) (ht _ mF_RM_30) (fun _ h9 => h9) rfl d_RM_run_166 ?_
                      refine lv_irem hx hb d_RM_run_169 b10 ?_
                      refine lv_aload_n hx hb d_RM_run_170 rfl (lv_at hl 1 rfl) ?_
                      refine va_get (D := D) (ci := 5) (v := .int (Sx.1 33 1)) (C := R_RM) (T := T_RM) (N := 13) hx hb ht i_RM hown hK hP 33 Xa_33 rfl 1 (by decide) (ht _ mF_RM_30) (fun _ h9 => h9) rfl d_RM_run_171 ?_
                      refine lv_iconst (v := 1) hx hb d_RM_run_174 (by decide) ?_
                      refine lv_isub hx hb d_RM_run_175 ?_
                      refine lv_icmp_lt (tgt := 194) hx hb d_RM_run_176 (by decide) (fun c31 => ?_) (fun c31 => ?_)
                      · rw [if_pos c31] at hf
                        refine lv_iconst (v := 1) hx hb d_RM_run_194 (by decide) ?_
                        refine lv_goto (tgt := 199) hx hb d_RM_run_195 (by decide) ?_
                        refine lv_istore_n (lv' := [(3, .int (1 : Int32)), (0, .ref (ad 33)), (1, .int a1), (2, .int x2_1)]) hx hb d_RM_run_199 rfl hl (by decide) rfl (fun ls hl => ?_)
                        refine lv_iload_n hx hb d_RM_run_200 rfl (lv_at hl 0 rfl) ?_
                        refine lv_if_eq (tgt := 210) hx hb d_RM_run_201 (by decide) (fun c32 => absurd c32 (by decide)) (fun c32 => ?_)
                        refine lv_iload_n hx hb d_RM_run_204 rfl (lv_at hl 3 rfl) ?_
                        refine lv_iconst (v := 1) hx hb d_RM_run_205 (by decide) ?_
                        refine lv_iadd hx hb d_RM_run_206 ?_
                        refine lv_goto (tgt := 211) hx hb d_RM_run_207 (by decide) ?_
                        refine lv_istore_n (lv' := [(2, .int (x2_1 + (1 : Int32))), (3, .int (1 : Int32)), (0, .ref (ad 33)), (1, .int a1)]) hx hb d_RM_run_211 rfl hl (by decide) rfl (fun ls hl => ?_)
                        refine lv_iload_n hx hb d_RM_run_212 rfl (lv_at hl 1 rfl) ?_
                        refine lv_if_eq (tgt := 236) hx hb d_RM_run_213 (by decide) (fun c33 => absurd c33 (by decide)) (fun c33 => ?_)
                        refine lv_iload_n hx hb d_RM_run_216 rfl (lv_at hl 0 rfl) ?_
                        refine lv_aload_n hx hb d_RM_run_217 rfl (lv_at hl 2 rfl) ?_
                        refine va_get (D := D) (ci := 5) (v := .int (Sx.1 33 1)) (C := R_RM) (T := T_RM) (N := 13) hx hb ht i_RM hown hK hP 33 Xa_33 rfl 1 (by decide) (ht _ mF_RM_30) (fun _ h9 => h9) rfl d_RM_run_218 ?_
                        refine lv_aload_n hx hb d_RM_run_221 rfl (lv_at hl 2 rfl) ?_
                        refine va_get (D := D) (ci := 5) (v := .int (Sx.1 33 3)) (C := R_RM) (T := T_RM) (N := 13) hx hb ht i_RM hown hK hP 33 Xa_33 rfl 3 (by decide) (ht _ mF_RM_39) (fun _ h9 => h9) rfl d_RM_run_222 ?_
                        refine lv_imul hx hb d_RM_run_225 ?_
                        refine lv_icmp_ge (tgt := 236) hx hb d_RM_run_226 (by decide) (fun c34 => ?_) (fun c34 => ?_)
                        · rw [if_pos c34] at hf
                          refine lv_goto (tgt := 58) hx hb d_RM_run_236 (by decide) ?_
                          exact ih (x2_1 + (1 : Int32)) (wI (wI Sx 36 x2_1.toNatClampNeg ((Sx.1 36 x2_1.toNatClampNeg) + (1 : Int32))) 33 10 ((Sx.1 33 10) + (1 : Int32))) _ _ _ hP hS (lv_sub hl [2, 3, 0] rfl) (fun hn => hs (hf.symm.trans hn)) (fun o ho => hret o (hf.symm.trans ho)) (fun v ho => hexit v (hf.symm.trans ho))
                        · rw [if_neg c34] at hf
                          refine lv_aload_n hx hb d_RM_run_229 rfl (lv_at hl 2 rfl) ?_
                          refine va_get (D := D) (ci := 5) (v := .ref (ad 36)) (C := R_RM) (T := T_RM) (N := 13) hx hb ht i_RM hown hK hP 33 Xa_33 rfl 11 (by decide) (ht _ mF_RM_23) (fun _ h9 => h9) rfl d_RM_run_230 ?_
                          refine lv_iload_n hx hb d_RM_run_233 rfl (lv_at hl 0 rfl) ?_
                          refine lv_iconst (v := (-1)) hx hb d_RM_run_234 (by decide) ?_
                          by_cases b35 : oob (x2_1 + (1 : Int32)) 48
                          · rw [if_pos b35] at hf; exact absurd hf.symm hs
                          rw [if_neg b35] at hf
                          refine va_iast hx hb hK hP (X_D hI hAd) hS 36 0 Xa_36 rfl b35 d_RM_run_235 (fun H locs hP _ hS => ?_)
                          replace hP := X_stI (by decide) Xc_36 hP
                          refine lv_goto (tgt := 58) hx hb d_RM_run_236 (by decide) ?_
                          exact ih (x2_1 + (1 : Int32)) (wI (wI (wI Sx 36 x2_1.toNatClampNeg ((Sx.1 36 x2_1.toNatClampNeg) + (1 : Int32))) 33 10 ((Sx.1 33 10) + (1 : Int32))) 36 (x2_1 + (1 : Int32)).toNatClampNeg (-1 : Int32)) _ _ _ hP hS (lv_sub hl [2, 3, 0] rfl) (fun hn => hs (hf.symm.trans hn)) (fun o ho => hret o (hf.symm.trans ho)) (fun v ho => hexit v (hf.symm.trans ho))
                      · rw [if_neg c31] at hf
                        refine lv_aload_n hx hb d_RM_run_179 rfl (lv_at hl 1 rfl) ?_
                        refine lv_iload_n hx hb d_RM_run_180 rfl (lv_at hl 3 rfl) ?_
                        refine lv_aload_n hx hb d_RM_run_181 rfl (lv_at hl 1 rfl) ?_
                        refine va_get (D := D) (ci := 5) (v := .int (Sx.1 33 1)) (C := R_RM) (T := T_RM) (N := 13) hx hb ht i_RM hown hK hP 33 Xa_33 rfl 1 (by decide) (ht _ mF_RM_30) (fun _ h9 => h9) rfl d_RM_run_182 ?_
                        refine lv_idiv hx hb d_RM_run_185 b10 ?_
                        refine lv_iconst (v := 1) hx hb d_RM_run_186 (by decide) ?_
                        refine lv_iadd hx hb d_RM_run_187 ?_
                        refine va_calli (va_runV (As := [.int ((x2_1 / (Sx.1 33 1)) + (1 : Int32))]) (rest := []) ⟨hx, hb, hml, hown, ht⟩ (c_RM_areGood l D cA ad hI H.size ((x2_1 / (Sx.1 33 1)) + (1 : Int32)) (wI (wI Sx 36 x2_1.toNatClampNeg ((Sx.1 36 x2_1.toNatClampNeg) + (1 : Int32))) 33 10 ((Sx.1 33 10) + (1 : Int32))) (fun hn => hs (by rw [hn] at hf; exact hf.symm))) (cwV 1 ht (good_G (gV mM_RM_81 mI_RM_areGood mV_RM_areGood mN_RM mk_RM_areGood)) rfl rfl rfl (by decide +kernel) ⟨Nat.le_of_ble_eq_true rfl, Nat.le_of_ble_eq_true rfl⟩) ⟨fun a U g mk q => ⟨q.1, q.2.1, q.2.2.1, va_K.moved (u := U) (U := U.calling g mk a) (Vm.Alike.refl U.vm) q.2.2.2⟩, va_recv hK hP (ci := 5) (q0 := 33) rfl Xa_33, fun U hU hW => ⟨rfl, by rw [hU], by rw [hU]; exact hP, va_K.moved hW.alike hK⟩⟩ rfl rfl hl.1 rfl (lv_room (Nat.le_of_ble_eq_true rfl)) d_RM_run_188 ⟨Nat.le_of_ble_eq_true rfl, Nat.le_of_ble_eq_true rfl⟩) hS (fun q _ h => hAS _ hS.1 q h) (fun q h => hAS _ hS.1 q h) (fun r4 _ t H locs ht9 hvm hw hB hz1 hk1 hS => ?_)
                        obtain ⟨hP, hK9⟩ := hB
                        rw [ht9] at hP
                        obtain ⟨hw, hz4⟩ := hw
                        rw [hw, Option.bind_some] at hf
                        refine lv_if_eq (tgt := 198) hx hb d_RM_run_191 (by decide) (fun c36 => ?_) (fun c36 => ?_)
                        · rw [if_pos c36] at hf
                          refine lv_iconst (v := 0) hx hb d_RM_run_198 (by decide) ?_
                          refine lv_istore_n (lv' := [(3, .int (0 : Int32)), (0, .ref (ad 33)), (1, .int a1), (2, .int x2_1)]) hx hb d_RM_run_199 rfl hl (by decide) rfl (fun ls hl => ?_)
                          refine lv_iload_n hx hb d_RM_run_200 rfl (lv_at hl 0 rfl) ?_
                          refine lv_if_eq (tgt := 210) hx hb d_RM_run_201 (by decide) (fun c37 => ?_) (fun c37 => absurd c37 (by decide))
                          refine lv_iload_n hx hb d_RM_run_210 rfl (lv_at hl 3 rfl) ?_
                          refine lv_istore_n (lv' := [(2, .int x2_1), (3, .int (0 : Int32)), (0, .ref (ad 33)), (1, .int a1)]) hx hb d_RM_run_211 rfl hl (by decide) rfl (fun ls hl => ?_)
                          refine lv_iload_n hx hb d_RM_run_212 rfl (lv_at hl 1 rfl) ?_
                          refine lv_if_eq (tgt := 236) hx hb d_RM_run_213 (by decide) (fun c38 => ?_) (fun c38 => absurd c38 (by decide))
                          refine lv_goto (tgt := 58) hx hb d_RM_run_236 (by decide) ?_
                          exact ih x2_1 (wI (wI Sx 36 x2_1.toNatClampNeg ((Sx.1 36 x2_1.toNatClampNeg) + (1 : Int32))) 33 10 ((Sx.1 33 10) + (1 : Int32))) _ _ _ hP hS (lv_sub hl [2, 3, 0] rfl) (fun hn => hs (hf.symm.trans hn)) (fun o ho => hret o (hf.symm.trans ho)) (fun v ho => hexit v (hf.symm.trans ho))
                        · rw [if_neg c36] at hf
                          refine lv_iconst (v := 1) hx hb d_RM_run_194 (by decide) ?_
                          refine lv_goto (tgt := 199) hx hb d_RM_run_195 (by decide) ?_
                          refine lv_istore_n (lv' := [(3, .int (1 : Int32)), (0, .ref (ad 33)), (1, .int a1), (2, .int x2_1)]) hx hb d_RM_run_199 rfl hl (by decide) rfl (fun ls hl => ?_)
                          refine lv_iload_n hx hb d_RM_run_200 rfl (lv_at hl 0 rfl) ?_
                          refine lv_if_eq (tgt := 210) hx hb d_RM_run_201 (by decide) (fun c39 => absurd c39 (by decide)) (fun c39 => ?_)
                          refine lv_iload_n hx hb d_RM_run_204 rfl (lv_at hl 3 rfl) ?_
                          refine lv_iconst (v := 1) hx hb d_RM_run_205 (by decide) ?_
                          refine lv_iadd hx hb d_RM_run_206 ?_
                          refine lv_goto (tgt := 211) hx hb d_RM_run_207 (by decide) ?_
                          refine lv_istore_n (lv' := [(2, .int (x2_1 + (1 : Int32))), (3, .int (1 : Int32)), (0, .ref (ad 33)), (1, .int a1)]) hx hb d_RM_run_211 rfl hl (by decide) rfl (fun ls hl => ?_)
                          refine lv_iload_n hx hb d_RM_run_212 rfl (lv_at hl 1 rfl) ?_
                          refine lv_if_eq (tgt := 236) hx hb d_RM_run_213 (by decide) (fun c40 => absurd c40 (by decide)) (fun c40 => ?_)
                          refine lv_iload_n hx hb d_RM_run_216 rfl (lv_at hl 0 rfl) ?_
                          refine lv_aload_n hx hb d_RM_run_217 rfl (lv_at hl 2 rfl) ?_
                          refine va_get (D := D) (ci := 5) (v := .int (Sx.1 33 1)) (C := R_RM) (T := T_RM) (N := 13) hx hb ht i_RM hown hK hP 33 Xa_33 rfl 1 (by decide) (ht _ mF_RM_30) (fun _ h9 => h9) rfl d_RM_run_218 ?_
                          refine lv_aload_n hx hb d_RM_run_221 rfl (lv_at hl 2 rfl) ?_
                          refine va_get (D := D) (ci := 5) (v := .int (Sx.1 33 3)) (C := R_RM) (T := T_RM) (N := 13) hx hb ht i_RM hown hK hP 33 Xa_33 rfl 3 (by decide) (ht _ mF_RM_39) (fun _ h9 => h9) rfl d_RM_run_222 ?_
                          refine lv_imul hx hb d_RM_run_225 ?_
                          refine lv_icmp_ge (tgt := 236) hx hb d_RM_run_226 (by decide) (fun c41 => ?_) (fun c41 => ?_)
                          · rw [if_pos c41] at hf
                            refine lv_goto (tgt := 58) hx hb d_RM_run_236 (by decide) ?_
                            exact ih (x2_1 + (1 : Int32)) (wI (wI Sx 36 x2_1.toNatClampNeg ((Sx.1 36 x2_1.toNatClampNeg) + (1 : Int32))) 33 10 ((Sx.1 33 10) + (1 : Int32))) _ _ _ hP hS (lv_sub hl [2, 3, 0] rfl) (fun hn => hs (hf.symm.trans hn)) (fun o ho => hret o (hf.symm.trans ho)) (fun v ho => hexit v (hf.symm.trans ho))
                          · rw [if_neg c41] at hf
                            refine lv_aload_n hx hb d_RM_run_229 rfl (lv_at hl 2 rfl) ?_
                            refine va_get (D := D) (ci := 5) (v := .ref (ad 36)) (C := R_RM) (T := T_RM) (N := 13) hx hb ht i_RM hown hK hP 33 Xa_33 rfl 11 (by decide) (ht _ mF_RM_23) (fun _ h9 => h9) rfl d_RM_run_230 ?_
                            refine lv_iload_n hx hb d_RM_run_233 rfl (lv_at hl 0 rfl) ?_
                            refine lv_iconst (v := (-1)) hx hb d_RM_run_234 (by decide) ?_
                            by_cases b42 : oob (x2_1 + (1 : Int32)) 48
                            · rw [if_pos b42] at hf; exact absurd hf.symm hs
                            rw [if_neg b42] at hf
                            refine va_iast hx hb hK hP (X_D hI hAd) hS 36 0 Xa_36 rfl b42 d_RM_run_235 (fun H locs hP _ hS => ?_)
                            replace hP := X_stI (by decide) Xc_36 hP
                            refine lv_goto (tgt := 58) hx hb d_RM_run_236 (by decide) ?_
                            exact ih (x2_1 + (1 : Int32)) (wI (wI (wI Sx 36 x2_1.toNatClampNeg ((Sx.1 36 x2_1.toNatClampNeg) + (1 : Int32))) 33 10 ((Sx.1 33 10) + (1 : Int32))) 36 (x2_1 + (1 : Int32)).toNatClampNeg (-1 : Int32)) _ _ _ hP hS (lv_sub hl [2, 3, 0] rfl) (fun hn => hs (hf.symm.trans hn)) (fun o ho => hret o (hf.symm.trans ho)) (fun v ho => hexit v (hf.symm.trans ho))
                · rw [if_pos c9] at hf
                  refine lv_iconst (v := 2) hx hb d_RM_run_112 (by decide) ?_
                  rw [← hQ]
                  exact W.iret (v := (2 : Int32)) hx hb hr (fun t ht hW => ⟨⟨(2 : Int32), wI Sx 36 x2_1.toNatClampNeg ((Sx.1 36 x2_1.toNatClampNeg) + (1 : Int32)), rfl, hret _ hf.symm, by rw [ht]; exact hP, va_K.moved hW.alike hK⟩, hS.F ht⟩) hS.2.2 d_RM_run_113
              · rw [if_pos c8] at hf
                refine lv_iinc (v := x2_1 + (-1)) (lv' := [(2, .int (x2_1 + (-1))), (0, .ref (ad 33)), (1, .int a1)]) hx hb d_RM_run_98 hl (k := 2) rfl rfl (by decide) rfl (fun ls hl => ?_)
                refine lv_goto (tgt := 58) hx hb d_RM_run_101 (by decide) ?_
                exact ih (x2_1 + (-1)) (wI Sx 36 x2_1.toNatClampNeg ((Sx.1 36 x2_1.toNatClampNeg) + (1 : Int32))) _ _ _ hP hS (lv_sub hl [1, 2, 0] rfl) (fun hn => hs (hf.symm.trans hn)) (fun o ho => hret o (hf.symm.trans ho)) (fun v ho => hexit v (hf.symm.trans ho))
      refine lp58_1 FU (0 : Int32) (wI (wI (wI (wI S 33 0 (0 : Int32)) 33 9 (0 : Int32)) 33 10 (0 : Int32)) 36 (0 : Int32).toNatClampNeg (-1 : Int32)) _ _ _ hP hS (lv_sub hl [1, 2, 0] rfl) (fun hn => ?_) (fun o ho => ?_) (fun v43 hvv43 H locs ls hP hS hl => ?_)
      · rw [hn] at hf; exact hs hf.symm
      · rw [ho, Option.bind_some, Sum.elim_inl] at hf; exact hf.symm
      · rw [hvv43, Option.bind_some, Sum.elim_inr] at hf
        refine lv_aload_n hx hb d_RM_run_239 rfl (lv_at hl 0 rfl) ?_
        refine lv_iload_n hx hb d_RM_run_240 rfl (lv_at hl 2 rfl) ?_
        refine lv_if_lt (tgt := 248) hx hb d_RM_run_241 (by decide) (fun c44 => ?_) (fun c44 => ?_)
        · rw [if_pos c44] at hf
          refine lv_iconst (v := 0) hx hb d_RM_run_248 (by decide) ?_
          refine va_put (D := D) (ci := 5) (v := .int (0 : Int32)) (ty := .boolean) (C := R_RM) (T := T_RM) (N := 13) hx hb ht i_RM t_RM t_RM_ok n_RM hown hK hP (X_D hI hAd) hS 33 Xa_33 rfl 9 (by decide) (ht _ mF_RM_45) (fun _ h9 => h9) rfl (by decide +kernel) rfl rfl (Nat.le_of_ble_eq_true rfl) d_RM_run_249 (fun H locs hP _ hS => ?_)
          replace hP := X_putI (by decide) hP rfl
          refine lv_aload_n hx hb d_RM_run_252 rfl (lv_at hl 0 rfl) ?_
          refine va_get (D := D) (ci := 5) (v := .int (0 : Int32)) (C := R_RM) (T := T_RM) (N := 13) hx hb ht i_RM hown hK hP 33 Xa_33 rfl 9 (by decide) (ht _ mF_RM_45) (fun _ h9 => h9) rfl d_RM_run_253 ?_
          refine lv_if_eq (tgt := 263) hx hb d_RM_run_256 (by decide) (fun c45 => ?_) (fun c45 => absurd c45 (by decide))
          refine lv_iconst (v := 0) hx hb d_RM_run_263 (by decide) ?_
          rw [← hQ]
          exact W.iret (v := (0 : Int32)) hx hb hr (fun t ht hW => ⟨⟨(0 : Int32), wI v43.2 33 9 (0 : Int32), rfl, hf.symm, by rw [ht]; exact hP, va_K.moved hW.alike hK⟩, hS.F ht⟩) hS.2.2 d_RM_run_264
        · rw [if_neg c44] at hf
          refine lv_iconst (v := 1) hx hb d_RM_run_244 (by decide) ?_
          refine lv_goto (tgt := 249) hx hb d_RM_run_245 (by decide) ?_
          refine va_put (D := D) (ci := 5) (v := .int (1 : Int32)) (ty := .boolean) (C := R_RM) (T := T_RM) (N := 13) hx hb ht i_RM t_RM t_RM_ok n_RM hown hK hP (X_D hI hAd) hS 33 Xa_33 rfl 9 (by decide) (ht _ mF_RM_45) (fun _ h9 => h9) rfl (by decide +kernel) rfl rfl (Nat.le_of_ble_eq_true rfl) d_RM_run_249 (fun H locs hP _ hS => ?_)
          replace hP := X_putI (by decide) hP rfl
          refine lv_aload_n hx hb d_RM_run_252 rfl (lv_at hl 0 rfl) ?_
          refine va_get (D := D) (ci := 5) (v := .int (1 : Int32)) (C := R_RM) (T := T_RM) (N := 13) hx hb ht i_RM hown hK hP 33 Xa_33 rfl 9 (by decide) (ht _ mF_RM_45) (fun _ h9 => h9) rfl d_RM_run_253 ?_
          refine lv_if_eq (tgt := 263) hx hb d_RM_run_256 (by decide) (fun c46 => absurd c46 (by decide)) (fun c46 => ?_)
          refine lv_iconst (v := 1) hx hb d_RM_run_259 (by decide) ?_
          refine lv_goto (tgt := 264) hx hb d_RM_run_260 (by decide) ?_
          rw [← hQ]
          exact W.iret (v := (1 : Int32)) hx hb hr (fun t ht hW => ⟨⟨(1 : Int32), wI v43.2 33 9 (1 : Int32), rfl, hf.symm, by rw [ht]; exact hP, va_K.moved hW.alike hK⟩, hS.F ht⟩) hS.2.2 d_RM_run_264
    · rw [if_pos c2] at hf
      refine lv_iconst (v := 2) hx hb d_RM_run_22 (by decide) ?_
      refine lv_goto (tgt := 27) hx hb d_RM_run_23 (by decide) ?_
      refine va_put (D := D) (ci := 5) (v := .int (2 : Int32)) (ty := .int) (C := R_RM) (T := T_RM) (N := 13) hx hb ht i_RM t_RM t_RM_ok n_RM hown hK hP (X_D hI hAd) hS 33 Xa_33 rfl 0 (by decide) (ht _ mF_RM_36) (fun _ h9 => h9) rfl (by decide +kernel) rfl rfl (Nat.le_of_ble_eq_true rfl) d_RM_run_27 (fun H locs hP _ hS => ?_)
      replace hP := X_putI (by decide) hP rfl
      refine lv_aload_n hx hb d_RM_run_30 rfl (lv_at hl 0 rfl) ?_
      refine va_get (D := D) (ci := 5) (v := .int (2 : Int32)) (C := R_RM) (T := T_RM) (N := 13) hx hb ht i_RM hown hK hP 33 Xa_33 rfl 0 (by decide) (ht _ mF_RM_36) (fun _ h9 => h9) rfl d_RM_run_31 ?_
      refine lv_if_le (tgt := 39) hx hb d_RM_run_34 (by decide) (fun c47 => absurd c47 (by decide)) (fun c47 => ?_)
      refine lv_iconst (v := 0) hx hb d_RM_run_37 (by decide) ?_
      rw [← hQ]
      exact W.iret (v := (0 : Int32)) hx hb hr (fun t ht hW => ⟨⟨(0 : Int32), wI S 33 0 (2 : Int32), rfl, hf.symm, by rw [ht]; exact hP, va_K.moved hW.alike hK⟩, hS.F ht⟩) hS.2.2 d_RM_run_38
  · rw [if_pos c1] at hf
    refine lv_iconst (v := 1) hx hb d_RM_run_11 (by decide) ?_
    refine lv_goto (tgt := 27) hx hb d_RM_run_12 (by decide) ?_
    refine va_put (D := D) (ci := 5) (v := .int (1 : Int32)) (ty := .int) (C := R_RM) (T := T_RM) (N := 13) hx hb ht i_RM t_RM t_RM_ok n_RM hown hK hP (X_D hI hAd) hS 33 Xa_33 rfl 0 (by decide) (ht _ mF_RM_36) (fun _ h9 => h9) rfl (by decide +kernel) rfl rfl (Nat.le_of_ble_eq_true rfl) d_RM_run_27 (fun H locs hP _ hS => ?_)
    replace hP := X_putI (by decide) hP rfl
    refine lv_aload_n hx hb d_RM_run_30 rfl (lv_at hl 0 rfl) ?_
    refine va_get (D := D) (ci := 5) (v := .int (1 : Int32)) (C := R_RM) (T := T_RM) (N := 13) hx hb ht i_RM hown hK hP 33 Xa_33 rfl 0 (by decide) (ht _ mF_RM_36) (fun _ h9 => h9) rfl d_RM_run_31 ?_
    refine lv_if_le (tgt := 39) hx hb d_RM_run_34 (by decide) (fun c48 => absurd c48 (by decide)) (fun c48 => ?_)
    refine lv_iconst (v := 0) hx hb d_RM_run_37 (by decide) ?_
    rw [← hQ]
    exact W.iret (v := (0 : Int32)) hx hb hr (fun t ht hW => ⟨⟨(0 : Int32), wI S 33 0 (1 : Int32), rfl, hf.symm, by rw [ht]; exact hP, va_K.moved hW.alike hK⟩, hS.F ht⟩) hS.2.2 d_RM_run_38
set_option maxHeartbeats 4000000 in
set_option maxRecDepth 100000 in
theorem c_RM_tries (l : Launch) (D : va_G) (cA : Nat → ClassId) (ad : Nat → Nat) (hI : InjA ad) (sz : Nat) (S : SS) (hs : f_RM_tries S ≠ none) : Met l y_RM_tries w_RM_tries ({ frames := 0, cells := 0, slots := 0, locals := 0 }) (va_Pc [.ref (ad 33)] (fun U => U.heap.size = sz ∧ va_P D vwCl (X cA ad S) U.heap ∧ va_K D vwCl (tysX cA) U)) (va_Qi (fun (r : Int32) (u : SS) => f_RM_tries S = some (r, u)) (fun (u : SS) t => va_P D vwCl (X cA ad u) t.heap ∧ va_K D vwCl (tysX cA) t) (AS ad sz)) 0 0 (AS ad sz) := by
  refine Met.ofW (cc := b_RM_tries) (maxL := 1) (ret := (some .int)) (by decide) rfl ?_
  intro p e s m args below meth c s₁ B hml hv
  obtain ⟨rfl, hsz, hP, hK⟩ := hv
  have hx := B.exec
  have hb := B.bytes
  have hr := B.returns
  have hts := atoms_spec (ws := w_RM_tries) B.pre
  have ht := fun w h => hts w (List.mem_cons_of_mem _ h)
  have hown : s.vm.findClass R_RM = some m.cls := findClass_of_methodNamed B.named
  have hlocks := B.notSynchronized
  subst hsz
  have hAd : ∀ q, q < NP → AS ad s.heap.size (ad q) := fun q h => Or.inl ⟨q, h, rfl⟩
  have hA : ∀ q : Nat, s.heap.size ≤ q → AS ad s.heap.size q := fun q h => Or.inr h
  have hAS : ∀ z : Nat, s.heap.size ≤ z → ∀ q : Nat, AS ad z q → AS ad s.heap.size q := fun z h q hq => hq.elim Or.inl (fun g => Or.inr (Nat.le_trans h g))
  generalize hAe : AS ad s.heap.size = A at hAd hA hAS ⊢
  have hS : va_S A s.heap s.heap [] := va_S.rf
  have hl := lv_entry ([.ref (ad 33)]) (n := 1) (Nat.le_of_ble_eq_true rfl)
  rw [lg_entry_eq]
  generalize (lg_sl ([.ref (ad 33)]) ++ List.replicate (1 - (lg_sl ([.ref (ad 33)])).length) Slot.unset).toArray = ls at hl ⊢
  have hl : lv_has ls 1 [(0, .ref (ad 33))] := hl
  have hf := (f_RM_tries_s S).symm
  generalize hQ : MQ below _ _ s _ _ _ = Q
  refine lv_aload_n hx hb d_RM_tries_0 rfl (lv_at hl 0 rfl) ?_
  refine lv_iconst (v := 0) hx hb d_RM_tries_1 (by decide) ?_
  refine va_put (D := D) (ci := 5) (v := .int (0 : Int32)) (ty := .int) (C := R_RM) (T := T_RM) (N := 13) hx hb ht i_RM t_RM t_RM_ok n_RM hown hK hP (X_D hI hAd) hS 33 Xa_33 rfl 0 (by decide) (ht _ mF_RM_36) (fun _ h9 => h9) rfl (by decide +kernel) rfl rfl (Nat.le_of_ble_eq_true rfl) d_RM_tries_2 (fun H locs hP _ hS => ?_)
  replace hP := X_putI (by decide) hP rfl
  refine lv_aload_n hx hb d_RM_tries_5 rfl (lv_at hl 0 rfl) ?_
  refine va_get (D := D) (ci := 5) (v := .int (S.1 33 10)) (C := R_RM) (T := T_RM) (N := 13) hx hb ht i_RM hown hK hP 33 Xa_33 rfl 10 (by decide) (ht _ mF_RM_75) (fun _ h9 => h9) rfl d_RM_tries_6 ?_
  rw [← hQ]
  exact W.iret (v := S.1 33 10) hx hb hr (fun t ht hW => ⟨⟨S.1 33 10, wI S 33 0 (0 : Int32), rfl, hf.symm, by rw [ht]; exact hP, va_K.moved hW.alike hK⟩, hS.F ht⟩) hS.2.2 d_RM_tries_9
set_option maxHeartbeats 4000000 in
set_option maxRecDepth 100000 in
theorem c_RM_noPin (l : Launch) (D : va_G) (cA : Nat → ClassId) (ad : Nat → Nat) (hI : InjA ad) (sz : Nat) (a1 : Int32) (S : SS) (hs : f_RM_noPin a1 S ≠ none) : Met l y_RM_noPin w_RM_noPin ({ frames := 0, cells := 0, slots := 0, locals := 0 }) (va_Pc [.ref (ad 33), .int a1] (fun U => U.heap.size = sz ∧ va_P D vwCl (X cA ad S) U.heap ∧ va_K D vwCl (tysX cA) U)) (va_Qi (fun (r : Int32) (_ : Unit) => f_RM_noPin a1 S = some r ∧ (r = 0 ∨ r = 1)) (fun (_ : Unit) t => va_P D vwCl (X cA ad S) t.heap ∧ va_K D vwCl (tysX cA) t) (AS ad sz)) 0 0 (AS ad sz) := by
  refine Met.ofW (cc := b_RM_noPin) (maxL := 2) (ret := (some .boolean)) (by decide) rfl ?_
  intro p e s m args below meth c s₁ B hml hv
  obtain ⟨rfl, hsz, hP, hK⟩ := hv
  have hx := B.exec
  have hb := B.bytes
  have hr := B.returns
  have hts := atoms_spec (ws := w_RM_noPin) B.pre
  have ht := fun w h => hts w (List.mem_cons_of_mem _ h)
  have hown : s.vm.findClass R_RM = some m.cls := findClass_of_methodNamed B.named
  have hlocks := B.notSynchronized
  subst hsz
  have hAd : ∀ q, q < NP → AS ad s.heap.size (ad q) := fun q h => Or.inl ⟨q, h, rfl⟩
  have hA : ∀ q : Nat, s.heap.size ≤ q → AS ad s.heap.size q := fun q h => Or.inr h
  have hAS : ∀ z : Nat, s.heap.size ≤ z → ∀ q : Nat, AS ad z q → AS ad s.heap.size q := fun z h q hq => hq.elim Or.inl (fun g => Or.inr (Nat.le_trans h g))
  generalize hAe : AS ad s.heap.size = A at hAd hA hAS ⊢
  have hS : va_S A s.heap s.heap [] := va_S.rf
  have hl := lv_entry ([.ref (ad 33), .int a1]) (n := 2) (Nat.le_of_ble_eq_true rfl)
  rw [lg_entry_eq]
  generalize (lg_sl ([.ref (ad 33), .int a1]) ++ List.replicate (2 - (lg_sl ([.ref (ad 33), .int a1])).length) Slot.unset).toArray = ls at hl ⊢
  have hl : lv_has ls 2 [(0, .ref (ad 33)), (1, .int a1)] := hl
  have hf := (f_RM_noPin_s a1 S).symm
  generalize hQ : MQ below _ _ s _ _ _ = Q
  refine lv_iload_n hx hb d_RM_noPin_0 rfl (lv_at hl 1 rfl) ?_
  refine lv_if_lt (tgt := 12) hx hb d_RM_noPin_1 (by decide) (fun c1 => ?_) (fun c1 => ?_)
  · rw [if_pos c1] at hf
    refine lv_iconst (v := 1) hx hb d_RM_noPin_12 (by decide) ?_
    refine lv_goto (tgt := 17) hx hb d_RM_noPin_13 (by decide) ?_
    rw [← hQ]
    have hz : (1 : Int32) = 0 ∨ (1 : Int32) = 1 := Or.inr rfl
    exact W.zret (v := (1 : Int32)) hx hb hr (zb_n hz) (fun t ht hW => ⟨⟨(1 : Int32), (), rfl, ⟨hf.symm, hz⟩, by rw [ht]; exact hP, va_K.moved hW.alike hK⟩, hS.F ht⟩) hS.2.2 d_RM_noPin_17
  · rw [if_neg c1] at hf
    refine lv_iload_n hx hb d_RM_noPin_4 rfl (lv_at hl 1 rfl) ?_
    refine lv_aload_n hx hb d_RM_noPin_5 rfl (lv_at hl 0 rfl) ?_
    refine va_get (D := D) (ci := 5) (v := .int (S.1 33 1)) (C := R_RM) (T := T_RM) (N := 13) hx hb ht i_RM hown hK hP 33 Xa_33 rfl 1 (by decide) (ht _ mF_RM_30) (fun _ h9 => h9) rfl d_RM_noPin_6 ?_
    refine lv_icmp_lt (tgt := 16) hx hb d_RM_noPin_9 (by decide) (fun c2 => ?_) (fun c2 => ?_)
    · rw [if_pos c2] at hf
      refine lv_iconst (v := 0) hx hb d_RM_noPin_16 (by decide) ?_
      rw [← hQ]
      have hz : (0 : Int32) = 0 ∨ (0 : Int32) = 1 := Or.inl rfl
      exact W.zret (v := (0 : Int32)) hx hb hr (zb_n hz) (fun t ht hW => ⟨⟨(0 : Int32), (), rfl, ⟨hf.symm, hz⟩, by rw [ht]; exact hP, va_K.moved hW.alike hK⟩, hS.F ht⟩) hS.2.2 d_RM_noPin_17
    · rw [if_neg c2] at hf
      refine lv_iconst (v := 1) hx hb d_RM_noPin_12 (by decide) ?_
      refine lv_goto (tgt := 17) hx hb d_RM_noPin_13 (by decide) ?_
      rw [← hQ]
      have hz : (1 : Int32) = 0 ∨ (1 : Int32) = 1 := Or.inr rfl
      exact W.zret (v := (1 : Int32)) hx hb hr (zb_n hz) (fun t ht hW => ⟨⟨(1 : Int32), (), rfl, ⟨hf.symm, hz⟩, by rw [ht]; exact hP, va_K.moved hW.alike hK⟩, hS.F ht⟩) hS.2.2 d_RM_noPin_17
set_option maxHeartbeats 4000000 in
set_option maxRecDepth 100000 in
theorem c_RM_cut (l : Launch) (D : va_G) (cA : Nat → ClassId) (ad : Nat → Nat) (hI : InjA ad) (sz : Nat) (a1 : Int32) (a2 : Int32) (S : SS) (hs : f_RM_cut a1 a2 S ≠ none) : Met l y_RM_cut w_RM_cut ({ frames := 1, cells := 0, slots := 0, locals := 21 }) (va_Pc [.ref (ad 33), .int a1, .int a2] (fun U => U.heap.size = sz ∧ va_P D vwCl (X cA ad S) U.heap ∧ va_K D vwCl (tysX cA) U)) (va_Qi (fun (r : Int32) (u : SS) => f_RM_cut a1 a2 S = some (r, u)) (fun (u : SS) t => va_P D vwCl (X cA ad u) t.heap ∧ va_K D vwCl (tysX cA) t) (AS ad sz)) 0 0 (AS ad sz) := by
  refine Met.ofW (cc := b_RM_cut) (maxL := 3) (ret := (some .int)) (by decide) rfl ?_
  intro p e s m args below meth c s₁ B hml hv
  obtain ⟨rfl, hsz, hP, hK⟩ := hv
  have hx := B.exec
  have hb := B.bytes
  have hr := B.returns
  have hts := atoms_spec (ws := w_RM_cut) B.pre
  have ht := fun w h => hts w (List.mem_cons_of_mem _ h)
  have hown : s.vm.findClass R_RM = some m.cls := findClass_of_methodNamed B.named
  have hlocks := B.notSynchronized
  subst hsz
  have hAd : ∀ q, q < NP → AS ad s.heap.size (ad q) := fun q h => Or.inl ⟨q, h, rfl⟩
  have hA : ∀ q : Nat, s.heap.size ≤ q → AS ad s.heap.size q := fun q h => Or.inr h
  have hAS : ∀ z : Nat, s.heap.size ≤ z → ∀ q : Nat, AS ad z q → AS ad s.heap.size q := fun z h q hq => hq.elim Or.inl (fun g => Or.inr (Nat.le_trans h g))
  generalize hAe : AS ad s.heap.size = A at hAd hA hAS ⊢
  have hS : va_S A s.heap s.heap [] := va_S.rf
  have hl := lv_entry ([.ref (ad 33), .int a1, .int a2]) (n := 3) (Nat.le_of_ble_eq_true rfl)
  rw [lg_entry_eq]
  generalize (lg_sl ([.ref (ad 33), .int a1, .int a2]) ++ List.replicate (3 - (lg_sl ([.ref (ad 33), .int a1, .int a2])).length) Slot.unset).toArray = ls at hl ⊢
  have hl : lv_has ls 3 [(0, .ref (ad 33)), (1, .int a1), (2, .int a2)] := hl
  have hf := (f_RM_cut_s a1 a2 S).symm
  generalize hQ : MQ below _ _ s _ _ _ = Q
  refine lv_aload_n hx hb d_RM_cut_0 rfl (lv_at hl 0 rfl) ?_
  refine lv_aload_n hx hb d_RM_cut_1 rfl (lv_at hl 0 rfl) ?_
  refine lv_iload_n hx hb d_RM_cut_2 rfl (lv_at hl 1 rfl) ?_
  refine va_calli (va_runV (As := [.int a1]) (rest := [.ref (ad 33)]) ⟨hx, hb, hml, hown, ht⟩ (c_RM_noKey l D cA ad hI s.heap.size a1 S (fun hn => hs (by rw [hn] at hf; exact hf.symm))) (cwV 1 ht (good_G (gV mM_RM_49 mI_RM_noKey mV_RM_noKey mN_RM mk_RM_noKey)) rfl rfl rfl (by decide +kernel) ⟨Nat.le_of_ble_eq_true rfl, Nat.le_of_ble_eq_true rfl⟩) ⟨fun a U g mk q => ⟨q.1, q.2.1, q.2.2.1, va_K.moved (u := U) (U := U.calling g mk a) (Vm.Alike.refl U.vm) q.2.2.2⟩, va_recv hK hP (ci := 5) (q0 := 33) rfl Xa_33, fun U hU hW => ⟨rfl, by rw [hU], by rw [hU]; exact hP, va_K.moved hW.alike hK⟩⟩ rfl rfl hl.1 rfl (lv_room (Nat.le_of_ble_eq_true rfl)) d_RM_cut_3 ⟨Nat.le_of_ble_eq_true rfl, Nat.le_of_ble_eq_true rfl⟩) hS (fun q _ h => hAS _ hS.1 q h) (fun q h => hAS _ hS.1 q h) (fun r1 _ t H locs ht9 hvm hw hB hz1 hk1 hS => ?_)
  obtain ⟨hP, hK9⟩ := hB
  rw [ht9] at hP
  obtain ⟨hw, hz1⟩ := hw
  rw [hw, Option.bind_some] at hf
  refine lv_if_ne (tgt := 17) hx hb d_RM_cut_6 (by decide) (fun c1 => ?_) (fun c1 => ?_)
  · rw [if_neg c1] at hf
    refine lv_iconst (v := 1) hx hb d_RM_cut_17 (by decide) ?_
    refine lv_goto (tgt := 22) hx hb d_RM_cut_18 (by decide) ?_
    refine va_put (D := D) (ci := 5) (v := .int (1 : Int32)) (ty := .int) (C := R_RM) (T := T_RM) (N := 13) hx hb ht i_RM t_RM t_RM_ok n_RM hown hK hP (X_D hI hAd) hS 33 Xa_33 rfl 0 (by decide) (ht _ mF_RM_36) (fun _ h9 => h9) rfl (by decide +kernel) rfl rfl (Nat.le_of_ble_eq_true rfl) d_RM_cut_22 (fun H locs hP _ hS => ?_)
    replace hP := X_putI (by decide) hP rfl
    refine lv_aload_n hx hb d_RM_cut_25 rfl (lv_at hl 0 rfl) ?_
    refine va_get (D := D) (ci := 5) (v := .int (1 : Int32)) (C := R_RM) (T := T_RM) (N := 13) hx hb ht i_RM hown hK hP 33 Xa_33 rfl 0 (by decide) (ht _ mF_RM_36) (fun _ h9 => h9) rfl d_RM_cut_26 ?_
    refine lv_if_le (tgt := 36) hx hb d_RM_cut_29 (by decide) (fun c2 => absurd c2 (by decide)) (fun c2 => ?_)
    refine lv_iconst (v := 0) hx hb d_RM_cut_32 (by decide) ?_
    refine lv_goto (tgt := 60) hx hb d_RM_cut_33 (by decide) ?_
    rw [← hQ]
    exact W.iret (v := (0 : Int32)) hx hb hr (fun t ht hW => ⟨⟨(0 : Int32), wI S 33 0 (1 : Int32), rfl, hf.symm, by rw [ht]; exact hP, va_K.moved hW.alike hK⟩, hS.F ht⟩) hS.2.2 d_RM_cut_60
  · rw [if_pos c1] at hf
    refine lv_aload_n hx hb d_RM_cut_9 rfl (lv_at hl 0 rfl) ?_
    refine lv_iload_n hx hb d_RM_cut_10 rfl (lv_at hl 2 rfl) ?_
    refine va_calli (va_runV (As := [.int a2]) (rest := [.ref (ad 33)]) ⟨hx, hb, hml, hown, ht⟩ (c_RM_noPin l D cA ad hI H.size a2 S (fun hn => hs (by rw [hn] at hf; exact hf.symm))) (cwV 1 ht (good_G (gV mM_RM_84 mI_RM_noPin mV_RM_noPin mN_RM mk_RM_noPin)) rfl rfl rfl (by decide +kernel) ⟨Nat.le_of_ble_eq_true rfl, Nat.le_of_ble_eq_true rfl⟩) ⟨fun a U g mk q => ⟨q.1, q.2.1, q.2.2.1, va_K.moved (u := U) (U := U.calling g mk a) (Vm.Alike.refl U.vm) q.2.2.2⟩, va_recv hK hP (ci := 5) (q0 := 33) rfl Xa_33, fun U hU hW => ⟨rfl, by rw [hU], by rw [hU]; exact hP, va_K.moved hW.alike hK⟩⟩ rfl rfl hl.1 rfl (lv_room (Nat.le_of_ble_eq_true rfl)) d_RM_cut_11 ⟨Nat.le_of_ble_eq_true rfl, Nat.le_of_ble_eq_true rfl⟩) hS (fun q _ h => hAS _ hS.1 q h) (fun q h => hAS _ hS.1 q h) (fun r2 _ t H locs ht9 hvm hw hB hz1 hk1 hS => ?_)
    obtain ⟨hP, hK9⟩ := hB
    rw [ht9] at hP
    obtain ⟨hw, hz2⟩ := hw
    rw [hw, Option.bind_some] at hf
    refine lv_if_eq (tgt := 21) hx hb d_RM_cut_14 (by decide) (fun c3 => ?_) (fun c3 => ?_)
    · rw [if_pos c3] at hf
      refine lv_iconst (v := 0) hx hb d_RM_cut_21 (by decide) ?_
      refine va_put (D := D) (ci := 5) (v := .int (0 : Int32)) (ty := .int) (C := R_RM) (T := T_RM) (N := 13) hx hb ht i_RM t_RM t_RM_ok n_RM hown hK hP (X_D hI hAd) hS 33 Xa_33 rfl 0 (by decide) (ht _ mF_RM_36) (fun _ h9 => h9) rfl (by decide +kernel) rfl rfl (Nat.le_of_ble_eq_true rfl) d_RM_cut_22 (fun H locs hP _ hS => ?_)
      replace hP := X_putI (by decide) hP rfl
      refine lv_aload_n hx hb d_RM_cut_25 rfl (lv_at hl 0 rfl) ?_
      refine va_get (D := D) (ci := 5) (v := .int (0 : Int32)) (C := R_RM) (T := T_RM) (N := 13) hx hb ht i_RM hown hK hP 33 Xa_33 rfl 0 (by decide) (ht _ mF_RM_36) (fun _ h9 => h9) rfl d_RM_cut_26 ?_
      refine lv_if_le (tgt := 36) hx hb d_RM_cut_29 (by decide) (fun c4 => ?_) (fun c4 => absurd c4 (by decide))
      refine lv_aload_n hx hb d_RM_cut_36 rfl (lv_at hl 0 rfl) ?_
      refine va_get (D := D) (ci := 5) (v := .int (S.1 33 9)) (C := R_RM) (T := T_RM) (N := 13) hx hb ht i_RM hown hK hP 33 Xa_33 rfl 9 (by decide) (ht _ mF_RM_45) (fun _ h9 => h9) rfl d_RM_cut_37 ?_
      refine lv_if_eq (tgt := 59) hx hb d_RM_cut_40 (by decide) (fun c5 => ?_) (fun c5 => ?_)
      · rw [if_pos c5] at hf
        refine lv_iconst (v := (-1)) hx hb d_RM_cut_59 (by decide) ?_
        rw [← hQ]
        exact W.iret (v := (-1 : Int32)) hx hb hr (fun t ht hW => ⟨⟨(-1 : Int32), wI S 33 0 (0 : Int32), rfl, hf.symm, by rw [ht]; exact hP, va_K.moved hW.alike hK⟩, hS.F ht⟩) hS.2.2 d_RM_cut_60
      · rw [if_neg c5] at hf
        refine lv_aload_n hx hb d_RM_cut_43 rfl (lv_at hl 0 rfl) ?_
        refine va_get (D := D) (ci := 5) (v := .ref (ad 36)) (C := R_RM) (T := T_RM) (N := 13) hx hb ht i_RM hown hK hP 33 Xa_33 rfl 11 (by decide) (ht _ mF_RM_23) (fun _ h9 => h9) rfl d_RM_cut_44 ?_
        refine lv_aload_n hx hb d_RM_cut_47 rfl (lv_at hl 0 rfl) ?_
        refine va_get (D := D) (ci := 5) (v := .int (S.1 33 1)) (C := R_RM) (T := T_RM) (N := 13) hx hb ht i_RM hown hK hP 33 Xa_33 rfl 1 (by decide) (ht _ mF_RM_30) (fun _ h9 => h9) rfl d_RM_cut_48 ?_
        refine lv_iload_n hx hb d_RM_cut_51 rfl (lv_at hl 1 rfl) ?_
        refine lv_imul hx hb d_RM_cut_52 ?_
        refine lv_iload_n hx hb d_RM_cut_53 rfl (lv_at hl 2 rfl) ?_
        refine lv_iadd hx hb d_RM_cut_54 ?_
        by_cases b6 : oob (((S.1 33 1) * a1) + a2) 48
        · rw [if_pos b6] at hf; exact absurd hf.symm hs
        rw [if_neg b6] at hf
        refine va_iald (f := S.1 36) hx hb hK hP 36 0 Xa_36 rfl b6 d_RM_cut_55 ?_
        refine lv_goto (tgt := 60) hx hb d_RM_cut_56 (by decide) ?_
        rw [← hQ]
        exact W.iret (v := S.1 36 (((S.1 33 1) * a1) + a2).toNatClampNeg) hx hb hr (fun t ht hW => ⟨⟨S.1 36 (((S.1 33 1) * a1) + a2).toNatClampNeg, wI S 33 0 (0 : Int32), rfl, hf.symm, by rw [ht]; exact hP, va_K.moved hW.alike hK⟩, hS.F ht⟩) hS.2.2 d_RM_cut_60
    · rw [if_neg c3] at hf
      refine lv_iconst (v := 1) hx hb d_RM_cut_17 (by decide) ?_
      refine lv_goto (tgt := 22) hx hb d_RM_cut_18 (by decide) ?_
      refine va_put (D := D) (ci := 5) (v := .int (1 : Int32)) (ty := .int) (C := R_RM) (T := T_RM) (N := 13) hx hb ht i_RM t_RM t_RM_ok n_RM hown hK hP (X_D hI hAd) hS 33 Xa_33 rfl 0 (by decide) (ht _ mF_RM_36) (fun _ h9 => h9) rfl (by decide +kernel) rfl rfl (Nat.le_of_ble_eq_true rfl) d_RM_cut_22 (fun H locs hP _ hS => ?_)
      replace hP := X_putI (by decide) hP rfl
      refine lv_aload_n hx hb d_RM_cut_25 rfl (lv_at hl 0 rfl) ?_
      refine va_get (D := D) (ci := 5) (v := .int (1 : Int32)) (C := R_RM) (T := T_RM) (N := 13) hx hb ht i_RM hown hK hP 33 Xa_33 rfl 0 (by decide) (ht _ mF_RM_36) (fun _ h9 => h9) rfl d_RM_cut_26 ?_
      refine lv_if_le (tgt := 36) hx hb d_RM_cut_29 (by decide) (fun c7 => absurd c7 (by decide)) (fun c7 => ?_)
      refine lv_iconst (v := 0) hx hb d_RM_cut_32 (by decide) ?_
      refine lv_goto (tgt := 60) hx hb d_RM_cut_33 (by decide) ?_
      rw [← hQ]
      exact W.iret (v := (0 : Int32)) hx hb hr (fun t ht hW => ⟨⟨(0 : Int32), wI S 33 0 (1 : Int32), rfl, hf.symm, by rw [ht]; exact hP, va_K.moved hW.alike hK⟩, hS.F ht⟩) hS.2.2 d_RM_cut_60
set_option maxHeartbeats 4000000 in
set_option maxRecDepth 100000 in
theorem c_RM_holds (l : Launch) (D : va_G) (cA : Nat → ClassId) (ad : Nat → Nat) (hI : InjA ad) (sz : Nat) (a1 : Int32) (a2 : Int32) (a3 : Int32) (S : SS) (hs : f_RM_holds a1 a2 a3 S ≠ none) : Met l y_RM_holds w_RM_holds ({ frames := 1, cells := 0, slots := 0, locals := 26 }) (va_Pc [.ref (ad 33), .int a1, .int a2, .int a3] (fun U => U.heap.size = sz ∧ va_P D vwCl (X cA ad S) U.heap ∧ va_K D vwCl (tysX cA) U)) (va_Qi (fun (r : Int32) (u : SS) => f_RM_holds a1 a2 a3 S = some (r, u) ∧ (r = 0 ∨ r = 1)) (fun (u : SS) t => va_P D vwCl (X cA ad u) t.heap ∧ va_K D vwCl (tysX cA) t) (AS ad sz)) 0 0 (AS ad sz) := by
  refine Met.ofW (cc := b_RM_holds) (maxL := 4) (ret := (some .boolean)) (by decide) rfl ?_
  intro p e s m args below meth c s₁ B hml hv
  obtain ⟨rfl, hsz, hP, hK⟩ := hv
  have hx := B.exec
  have hb := B.bytes
  have hr := B.returns
  have hts := atoms_spec (ws := w_RM_holds) B.pre
  have ht := fun w h => hts w (List.mem_cons_of_mem _ h)
  have hown : s.vm.findClass R_RM = some m.cls := findClass_of_methodNamed B.named
  have hlocks := B.notSynchronized
  subst hsz
  have hAd : ∀ q, q < NP → AS ad s.heap.size (ad q) := fun q h => Or.inl ⟨q, h, rfl⟩
  have hA : ∀ q : Nat, s.heap.size ≤ q → AS ad s.heap.size q := fun q h => Or.inr h
  have hAS : ∀ z : Nat, s.heap.size ≤ z → ∀ q : Nat, AS ad z q → AS ad s.heap.size q := fun z h q hq => hq.elim Or.inl (fun g => Or.inr (Nat.le_trans h g))
  generalize hAe : AS ad s.heap.size = A at hAd hA hAS ⊢
  have hS : va_S A s.heap s.heap [] := va_S.rf
  have hl := lv_entry ([.ref (ad 33), .int a1, .int a2, .int a3]) (n := 4) (Nat.le_of_ble_eq_true rfl)
  rw [lg_entry_eq]
  generalize (lg_sl ([.ref (ad 33), .int a1, .int a2, .int a3]) ++ List.replicate (4 - (lg_sl ([.ref (ad 33), .int a1, .int a2, .int a3])).length) Slot.unset).toArray = ls at hl ⊢
  have hl : lv_has ls 4 [(0, .ref (ad 33)), (1, .int a1), (2, .int a2), (3, .int a3)] := hl
  have hf := (f_RM_holds_s a1 a2 a3 S).symm
  generalize hQ : MQ below _ _ s _ _ _ = Q
  refine lv_aload_n hx hb d_RM_holds_0 rfl (lv_at hl 0 rfl) ?_
  refine lv_aload_n hx hb d_RM_holds_1 rfl (lv_at hl 0 rfl) ?_
  refine lv_iload_n hx hb d_RM_holds_2 rfl (lv_at hl 1 rfl) ?_
  refine va_calli (va_runV (As := [.int a1]) (rest := [.ref (ad 33)]) ⟨hx, hb, hml, hown, ht⟩ (c_RM_noDoor l D cA ad hI s.heap.size a1 S (fun hn => hs (by rw [hn] at hf; exact hf.symm))) (cwV 1 ht (good_G (gV mM_RM_53 mI_RM_noDoor mV_RM_noDoor mN_RM mk_RM_noDoor)) rfl rfl rfl (by decide +kernel) ⟨Nat.le_of_ble_eq_true rfl, Nat.le_of_ble_eq_true rfl⟩) ⟨fun a U g mk q => ⟨q.1, q.2.1, q.2.2.1, va_K.moved (u := U) (U := U.calling g mk a) (Vm.Alike.refl U.vm) q.2.2.2⟩, va_recv hK hP (ci := 5) (q0 := 33) rfl Xa_33, fun U hU hW => ⟨rfl, by rw [hU], by rw [hU]; exact hP, va_K.moved hW.alike hK⟩⟩ rfl rfl hl.1 rfl (lv_room (Nat.le_of_ble_eq_true rfl)) d_RM_holds_3 ⟨Nat.le_of_ble_eq_true rfl, Nat.le_of_ble_eq_true rfl⟩) hS (fun q _ h => hAS _ hS.1 q h) (fun q h => hAS _ hS.1 q h) (fun r1 _ t H locs ht9 hvm hw hB hz1 hk1 hS => ?_)
  obtain ⟨hP, hK9⟩ := hB
  rw [ht9] at hP
  obtain ⟨hw, hz1⟩ := hw
  rw [hw, Option.bind_some] at hf
  refine lv_if_ne (tgt := 25) hx hb d_RM_holds_6 (by decide) (fun c1 => ?_) (fun c1 => ?_)
  · rw [if_neg c1] at hf
    refine lv_iconst (v := 1) hx hb d_RM_holds_25 (by decide) ?_
    refine lv_goto (tgt := 30) hx hb d_RM_holds_26 (by decide) ?_
    refine va_put (D := D) (ci := 5) (v := .int (1 : Int32)) (ty := .int) (C := R_RM) (T := T_RM) (N := 13) hx hb ht i_RM t_RM t_RM_ok n_RM hown hK hP (X_D hI hAd) hS 33 Xa_33 rfl 0 (by decide) (ht _ mF_RM_36) (fun _ h9 => h9) rfl (by decide +kernel) rfl rfl (Nat.le_of_ble_eq_true rfl) d_RM_holds_30 (fun H locs hP _ hS => ?_)
    replace hP := X_putI (by decide) hP rfl
    refine lv_aload_n hx hb d_RM_holds_33 rfl (lv_at hl 0 rfl) ?_
    refine va_get (D := D) (ci := 5) (v := .int (1 : Int32)) (C := R_RM) (T := T_RM) (N := 13) hx hb ht i_RM hown hK hP 33 Xa_33 rfl 0 (by decide) (ht _ mF_RM_36) (fun _ h9 => h9) rfl d_RM_holds_34 ?_
    refine lv_if_ne (tgt := 65) hx hb d_RM_holds_37 (by decide) (fun c2 => ?_) (fun c2 => absurd c2 (by decide))
    refine lv_iconst (v := 0) hx hb d_RM_holds_65 (by decide) ?_
    rw [← hQ]
    have hz : (0 : Int32) = 0 ∨ (0 : Int32) = 1 := Or.inl rfl
    exact W.zret (v := (0 : Int32)) hx hb hr (zb_n hz) (fun t ht hW => ⟨⟨(0 : Int32), wI S 33 0 (1 : Int32), rfl, ⟨hf.symm, hz⟩, by rw [ht]; exact hP, va_K.moved hW.alike hK⟩, hS.F ht⟩) hS.2.2 d_RM_holds_66
  · rw [if_pos c1] at hf
    refine lv_aload_n hx hb d_RM_holds_9 rfl (lv_at hl 0 rfl) ?_
    refine lv_iload_n hx hb d_RM_holds_10 rfl (lv_at hl 2 rfl) ?_
    refine va_calli (va_runV (As := [.int a2]) (rest := [.ref (ad 33)]) ⟨hx, hb, hml, hown, ht⟩ (c_RM_noPin l D cA ad hI H.size a2 S (fun hn => hs (by rw [hn] at hf; exact hf.symm))) (cwV 1 ht (good_G (gV mM_RM_84 mI_RM_noPin mV_RM_noPin mN_RM mk_RM_noPin)) rfl rfl rfl (by decide +kernel) ⟨Nat.le_of_ble_eq_true rfl, Nat.le_of_ble_eq_true rfl⟩) ⟨fun a U g mk q => ⟨q.1, q.2.1, q.2.2.1, va_K.moved (u := U) (U := U.calling g mk a) (Vm.Alike.refl U.vm) q.2.2.2⟩, va_recv hK hP (ci := 5) (q0 := 33) rfl Xa_33, fun U hU hW => ⟨rfl, by rw [hU], by rw [hU]; exact hP, va_K.moved hW.alike hK⟩⟩ rfl rfl hl.1 rfl (lv_room (Nat.le_of_ble_eq_true rfl)) d_RM_holds_11 ⟨Nat.le_of_ble_eq_true rfl, Nat.le_of_ble_eq_true rfl⟩) hS (fun q _ h => hAS _ hS.1 q h) (fun q h => hAS _ hS.1 q h) (fun r2 _ t H locs ht9 hvm hw hB hz1 hk1 hS => ?_)
    obtain ⟨hP, hK9⟩ := hB
    rw [ht9] at hP
    obtain ⟨hw, hz2⟩ := hw
    rw [hw, Option.bind_some] at hf
    refine lv_if_ne (tgt := 25) hx hb d_RM_holds_14 (by decide) (fun c3 => ?_) (fun c3 => ?_)
    · rw [if_neg c3] at hf
      refine lv_iconst (v := 1) hx hb d_RM_holds_25 (by decide) ?_
      refine lv_goto (tgt := 30) hx hb d_RM_holds_26 (by decide) ?_
      refine va_put (D := D) (ci := 5) (v := .int (1 : Int32)) (ty := .int) (C := R_RM) (T := T_RM) (N := 13) hx hb ht i_RM t_RM t_RM_ok n_RM hown hK hP (X_D hI hAd) hS 33 Xa_33 rfl 0 (by decide) (ht _ mF_RM_36) (fun _ h9 => h9) rfl (by decide +kernel) rfl rfl (Nat.le_of_ble_eq_true rfl) d_RM_holds_30 (fun H locs hP _ hS => ?_)
      replace hP := X_putI (by decide) hP rfl
      refine lv_aload_n hx hb d_RM_holds_33 rfl (lv_at hl 0 rfl) ?_
      refine va_get (D := D) (ci := 5) (v := .int (1 : Int32)) (C := R_RM) (T := T_RM) (N := 13) hx hb ht i_RM hown hK hP 33 Xa_33 rfl 0 (by decide) (ht _ mF_RM_36) (fun _ h9 => h9) rfl d_RM_holds_34 ?_
      refine lv_if_ne (tgt := 65) hx hb d_RM_holds_37 (by decide) (fun c4 => ?_) (fun c4 => absurd c4 (by decide))
      refine lv_iconst (v := 0) hx hb d_RM_holds_65 (by decide) ?_
      rw [← hQ]
      have hz : (0 : Int32) = 0 ∨ (0 : Int32) = 1 := Or.inl rfl
      exact W.zret (v := (0 : Int32)) hx hb hr (zb_n hz) (fun t ht hW => ⟨⟨(0 : Int32), wI S 33 0 (1 : Int32), rfl, ⟨hf.symm, hz⟩, by rw [ht]; exact hP, va_K.moved hW.alike hK⟩, hS.F ht⟩) hS.2.2 d_RM_holds_66
    · rw [if_pos c3] at hf
      refine lv_aload_n hx hb d_RM_holds_17 rfl (lv_at hl 0 rfl) ?_
      refine lv_iload_n hx hb d_RM_holds_18 rfl (lv_at hl 3 rfl) ?_
      refine va_calli (va_runV (As := [.int a3]) (rest := [.ref (ad 33)]) ⟨hx, hb, hml, hown, ht⟩ (c_RM_noDepth l D cA ad hI H.size a3 S (fun hn => hs (by rw [hn] at hf; exact hf.symm))) (cwV 1 ht (good_G (gV mM_RM_60 mI_RM_noDepth mV_RM_noDepth mN_RM mk_RM_noDepth)) rfl rfl rfl (by decide +kernel) ⟨Nat.le_of_ble_eq_true rfl, Nat.le_of_ble_eq_true rfl⟩) ⟨fun a U g mk q => ⟨q.1, q.2.1, q.2.2.1, va_K.moved (u := U) (U := U.calling g mk a) (Vm.Alike.refl U.vm) q.2.2.2⟩, va_recv hK hP (ci := 5) (q0 := 33) rfl Xa_33, fun U hU hW => ⟨rfl, by rw [hU], by rw [hU]; exact hP, va_K.moved hW.alike hK⟩⟩ rfl rfl hl.1 rfl (lv_room (Nat.le_of_ble_eq_true rfl)) d_RM_holds_19 ⟨Nat.le_of_ble_eq_true rfl, Nat.le_of_ble_eq_true rfl⟩) hS (fun q _ h => hAS _ hS.1 q h) (fun q h => hAS _ hS.1 q h) (fun r3 _ t H locs ht9 hvm hw hB hz1 hk1 hS => ?_)
      obtain ⟨hP, hK9⟩ := hB
      rw [ht9] at hP
      obtain ⟨hw, hz3⟩ := hw
      rw [hw, Option.bind_some] at hf
      refine lv_if_eq (tgt := 29) hx hb d_RM_holds_22 (by decide) (fun c5 => ?_) (fun c5 => ?_)
      · rw [if_pos c5] at hf
        refine lv_iconst (v := 0) hx hb d_RM_holds_29 (by decide) ?_
        refine va_put (D := D) (ci := 5) (v := .int (0 : Int32)) (ty := .int) (C := R_RM) (T := T_RM) (N := 13) hx hb ht i_RM t_RM t_RM_ok n_RM hown hK hP (X_D hI hAd) hS 33 Xa_33 rfl 0 (by decide) (ht _ mF_RM_36) (fun _ h9 => h9) rfl (by decide +kernel) rfl rfl (Nat.le_of_ble_eq_true rfl) d_RM_holds_30 (fun H locs hP _ hS => ?_)
        replace hP := X_putI (by decide) hP rfl
        refine lv_aload_n hx hb d_RM_holds_33 rfl (lv_at hl 0 rfl) ?_
        refine va_get (D := D) (ci := 5) (v := .int (0 : Int32)) (C := R_RM) (T := T_RM) (N := 13) hx hb ht i_RM hown hK hP 33 Xa_33 rfl 0 (by decide) (ht _ mF_RM_36) (fun _ h9 => h9) rfl d_RM_holds_34 ?_
        refine lv_if_ne (tgt := 65) hx hb d_RM_holds_37 (by decide) (fun c6 => absurd c6 (by decide)) (fun c6 => ?_)
        refine lv_aload_n hx hb d_RM_holds_40 rfl (lv_at hl 0 rfl) ?_
        refine va_get (D := D) (ci := 5) (v := .int (S.1 33 9)) (C := R_RM) (T := T_RM) (N := 13) hx hb ht i_RM hown hK hP 33 Xa_33 rfl 9 (by decide) (ht _ mF_RM_45) (fun _ h9 => h9) rfl d_RM_holds_41 ?_
        refine lv_if_eq (tgt := 65) hx hb d_RM_holds_44 (by decide) (fun c7 => ?_) (fun c7 => ?_)
        · rw [if_pos c7] at hf
          refine lv_iconst (v := 0) hx hb d_RM_holds_65 (by decide) ?_
          rw [← hQ]
          have hz : (0 : Int32) = 0 ∨ (0 : Int32) = 1 := Or.inl rfl
          exact W.zret (v := (0 : Int32)) hx hb hr (zb_n hz) (fun t ht hW => ⟨⟨(0 : Int32), wI S 33 0 (0 : Int32), rfl, ⟨hf.symm, hz⟩, by rw [ht]; exact hP, va_K.moved hW.alike hK⟩, hS.F ht⟩) hS.2.2 d_RM_holds_66
        · rw [if_neg c7] at hf
          refine lv_aload_n hx hb d_RM_holds_47 rfl (lv_at hl 0 rfl) ?_
          refine lv_aload_n hx hb d_RM_holds_48 rfl (lv_at hl 0 rfl) ?_
          refine va_get (D := D) (ci := 5) (v := .int (S.1 33 3)) (C := R_RM) (T := T_RM) (N := 13) hx hb ht i_RM hown hK hP 33 Xa_33 rfl 3 (by decide) (ht _ mF_RM_39) (fun _ h9 => h9) rfl d_RM_holds_49 ?_
          refine lv_iload_n hx hb d_RM_holds_52 rfl (lv_at hl 1 rfl) ?_
          refine lv_iload_n hx hb d_RM_holds_53 rfl (lv_at hl 2 rfl) ?_
          refine lv_iload_n hx hb d_RM_holds_54 rfl (lv_at hl 3 rfl) ?_
          refine va_calli (va_runV (As := [.int (S.1 33 3), .int a1, .int a2, .int a3]) (rest := []) ⟨hx, hb, hml, hown, ht⟩ (c_RM_isHeld l D cA ad hI H.size (S.1 33 3) a1 a2 a3 (wI S 33 0 (0 : Int32)) (fun hn => hs (by rw [hn] at hf; exact hf.symm))) (cwV 4 ht (good_G (gV mM_RM_63 mI_RM_isHeld mV_RM_isHeld mN_RM mk_RM_isHeld)) rfl rfl rfl (by decide +kernel) ⟨Nat.le_of_ble_eq_true rfl, Nat.le_of_ble_eq_true rfl⟩) ⟨fun a U g mk q => ⟨q.1, q.2.1, q.2.2.1, va_K.moved (u := U) (U := U.calling g mk a) (Vm.Alike.refl U.vm) q.2.2.2⟩, va_recv hK hP (ci := 5) (q0 := 33) rfl Xa_33, fun U hU hW => ⟨rfl, by rw [hU], by rw [hU]; exact hP, va_K.moved hW.alike hK⟩⟩ rfl rfl hl.1 rfl (lv_room (Nat.le_of_ble_eq_true rfl)) d_RM_holds_55 ⟨Nat.le_of_ble_eq_true rfl, Nat.le_of_ble_eq_true rfl⟩) hS (fun q _ h => hAS _ hS.1 q h) (fun q h => hAS _ hS.1 q h) (fun r4 _ t H locs ht9 hvm hw hB hz1 hk1 hS => ?_)
          obtain ⟨hP, hK9⟩ := hB
          rw [ht9] at hP
          obtain ⟨hw, hz4⟩ := hw
          rw [hw, Option.bind_some] at hf
          refine lv_if_eq (tgt := 65) hx hb d_RM_holds_58 (by decide) (fun c8 => ?_) (fun c8 => ?_)
          · rw [if_pos c8] at hf
            refine lv_iconst (v := 0) hx hb d_RM_holds_65 (by decide) ?_
            rw [← hQ]
            have hz : (0 : Int32) = 0 ∨ (0 : Int32) = 1 := Or.inl rfl
            exact W.zret (v := (0 : Int32)) hx hb hr (zb_n hz) (fun t ht hW => ⟨⟨(0 : Int32), wI S 33 0 (0 : Int32), rfl, ⟨hf.symm, hz⟩, by rw [ht]; exact hP, va_K.moved hW.alike hK⟩, hS.F ht⟩) hS.2.2 d_RM_holds_66
          · rw [if_neg c8] at hf
            refine lv_iconst (v := 1) hx hb d_RM_holds_61 (by decide) ?_
            refine lv_goto (tgt := 66) hx hb d_RM_holds_62 (by decide) ?_
            rw [← hQ]
            have hz : (1 : Int32) = 0 ∨ (1 : Int32) = 1 := Or.inr rfl
            exact W.zret (v := (1 : Int32)) hx hb hr (zb_n hz) (fun t ht hW => ⟨⟨(1 : Int32), wI S 33 0 (0 : Int32), rfl, ⟨hf.symm, hz⟩, by rw [ht]; exact hP, va_K.moved hW.alike hK⟩, hS.F ht⟩) hS.2.2 d_RM_holds_66
      · rw [if_neg c5] at hf
        refine lv_iconst (v := 1) hx hb d_RM_holds_25 (by decide) ?_
        refine lv_goto (tgt := 30) hx hb d_RM_holds_26 (by decide) ?_
        refine va_put (D := D) (ci := 5) (v := .int (1 : Int32)) (ty := .int) (C := R_RM) (T := T_RM) (N := 13) hx hb ht i_RM t_RM t_RM_ok n_RM hown hK hP (X_D hI hAd) hS 33 Xa_33 rfl 0 (by decide) (ht _ mF_RM_36) (fun _ h9 => h9) rfl (by decide +kernel) rfl rfl (Nat.le_of_ble_eq_true rfl) d_RM_holds_30 (fun H locs hP _ hS => ?_)
        replace hP := X_putI (by decide) hP rfl
        refine lv_aload_n hx hb d_RM_holds_33 rfl (lv_at hl 0 rfl) ?_
        refine va_get (D := D) (ci := 5) (v := .int (1 : Int32)) (C := R_RM) (T := T_RM) (N := 13) hx hb ht i_RM hown hK hP 33 Xa_33 rfl 0 (by decide) (ht _ mF_RM_36) (fun _ h9 => h9) rfl d_RM_holds_34 ?_
        refine lv_if_ne (tgt := 65) hx hb d_RM_holds_37 (by decide) (fun c9 => ?_) (fun c9 => absurd c9 (by decide))
        refine lv_iconst (v := 0) hx hb d_RM_holds_65 (by decide) ?_
        rw [← hQ]
        have hz : (0 : Int32) = 0 ∨ (0 : Int32) = 1 := Or.inl rfl
        exact W.zret (v := (0 : Int32)) hx hb hr (zb_n hz) (fun t ht hW => ⟨⟨(0 : Int32), wI S 33 0 (1 : Int32), rfl, ⟨hf.symm, hz⟩, by rw [ht]; exact hP, va_K.moved hW.alike hK⟩, hS.F ht⟩) hS.2.2 d_RM_holds_66
set_option maxHeartbeats 4000000 in
set_option maxRecDepth 100000 in
theorem c_RM_fits (l : Launch) (D : va_G) (cA : Nat → ClassId) (ad : Nat → Nat) (hI : InjA ad) (sz : Nat) (a1 : Int32) (a2 : Int32) (S : SS) (hs : f_RM_fits a1 a2 S ≠ none) : Met l y_RM_fits w_RM_fits ({ frames := 2, cells := 0, slots := 0, locals := 51 }) (va_Pc [.ref (ad 33), .int a1, .int a2] (fun U => U.heap.size = sz ∧ va_P D vwCl (X cA ad S) U.heap ∧ va_K D vwCl (tysX cA) U)) (va_Qi (fun (r : Int32) (u : SS) => f_RM_fits a1 a2 S = some (r, u) ∧ (r = 0 ∨ r = 1)) (fun (u : SS) t => va_P D vwCl (X cA ad u) t.heap ∧ va_K D vwCl (tysX cA) t) (AS ad sz)) 0 0 (AS ad sz) := by
  refine Met.ofW (cc := b_RM_fits) (maxL := 3) (ret := (some .boolean)) (by decide) rfl ?_
  intro p e s m args below meth c s₁ B hml hv
  obtain ⟨rfl, hsz, hP, hK⟩ := hv
  have hx := B.exec
  have hb := B.bytes
  have hr := B.returns
  have hts := atoms_spec (ws := w_RM_fits) B.pre
  have ht := fun w h => hts w (List.mem_cons_of_mem _ h)
  have hown : s.vm.findClass R_RM = some m.cls := findClass_of_methodNamed B.named
  have hlocks := B.notSynchronized
  subst hsz
  have hAd : ∀ q, q < NP → AS ad s.heap.size (ad q) := fun q h => Or.inl ⟨q, h, rfl⟩
  have hA : ∀ q : Nat, s.heap.size ≤ q → AS ad s.heap.size q := fun q h => Or.inr h
  have hAS : ∀ z : Nat, s.heap.size ≤ z → ∀ q : Nat, AS ad z q → AS ad s.heap.size q := fun z h q hq => hq.elim Or.inl (fun g => Or.inr (Nat.le_trans h g))
  generalize hAe : AS ad s.heap.size = A at hAd hA hAS ⊢
  have hS : va_S A s.heap s.heap [] := va_S.rf
  have hl := lv_entry ([.ref (ad 33), .int a1, .int a2]) (n := 3) (Nat.le_of_ble_eq_true rfl)
  rw [lg_entry_eq]
  generalize (lg_sl ([.ref (ad 33), .int a1, .int a2]) ++ List.replicate (3 - (lg_sl ([.ref (ad 33), .int a1, .int a2])).length) Slot.unset).toArray = ls at hl ⊢
  have hl : lv_has ls 3 [(0, .ref (ad 33)), (1, .int a1), (2, .int a2)] := hl
  have hf := (f_RM_fits_s a1 a2 S).symm
  generalize hQ : MQ below _ _ s _ _ _ = Q
  refine lv_aload_n hx hb d_RM_fits_0 rfl (lv_at hl 0 rfl) ?_
  refine lv_aload_n hx hb d_RM_fits_1 rfl (lv_at hl 0 rfl) ?_
  refine lv_iload_n hx hb d_RM_fits_2 rfl (lv_at hl 1 rfl) ?_
  refine va_calli (va_runV (As := [.int a1]) (rest := [.ref (ad 33)]) ⟨hx, hb, hml, hown, ht⟩ (c_RM_noKey l D cA ad hI s.heap.size a1 S (fun hn => hs (by rw [hn] at hf; exact hf.symm))) (cwV 1 ht (good_G (gV mM_RM_49 mI_RM_noKey mV_RM_noKey mN_RM mk_RM_noKey)) rfl rfl rfl (by decide +kernel) ⟨Nat.le_of_ble_eq_true rfl, Nat.le_of_ble_eq_true rfl⟩) ⟨fun a U g mk q => ⟨q.1, q.2.1, q.2.2.1, va_K.moved (u := U) (U := U.calling g mk a) (Vm.Alike.refl U.vm) q.2.2.2⟩, va_recv hK hP (ci := 5) (q0 := 33) rfl Xa_33, fun U hU hW => ⟨rfl, by rw [hU], by rw [hU]; exact hP, va_K.moved hW.alike hK⟩⟩ rfl rfl hl.1 rfl (lv_room (Nat.le_of_ble_eq_true rfl)) d_RM_fits_3 ⟨Nat.le_of_ble_eq_true rfl, Nat.le_of_ble_eq_true rfl⟩) hS (fun q _ h => hAS _ hS.1 q h) (fun q h => hAS _ hS.1 q h) (fun r1 _ t H locs ht9 hvm hw hB hz1 hk1 hS => ?_)
  obtain ⟨hP, hK9⟩ := hB
  rw [ht9] at hP
  obtain ⟨hw, hz1⟩ := hw
  rw [hw, Option.bind_some] at hf
  refine lv_if_ne (tgt := 17) hx hb d_RM_fits_6 (by decide) (fun c1 => ?_) (fun c1 => ?_)
  · rw [if_neg c1] at hf
    refine lv_iconst (v := 1) hx hb d_RM_fits_17 (by decide) ?_
    refine lv_goto (tgt := 22) hx hb d_RM_fits_18 (by decide) ?_
    refine va_put (D := D) (ci := 5) (v := .int (1 : Int32)) (ty := .int) (C := R_RM) (T := T_RM) (N := 13) hx hb ht i_RM t_RM t_RM_ok n_RM hown hK hP (X_D hI hAd) hS 33 Xa_33 rfl 0 (by decide) (ht _ mF_RM_36) (fun _ h9 => h9) rfl (by decide +kernel) rfl rfl (Nat.le_of_ble_eq_true rfl) d_RM_fits_22 (fun H locs hP _ hS => ?_)
    replace hP := X_putI (by decide) hP rfl
    refine lv_aload_n hx hb d_RM_fits_25 rfl (lv_at hl 0 rfl) ?_
    refine va_get (D := D) (ci := 5) (v := .int (1 : Int32)) (C := R_RM) (T := T_RM) (N := 13) hx hb ht i_RM hown hK hP 33 Xa_33 rfl 0 (by decide) (ht _ mF_RM_36) (fun _ h9 => h9) rfl d_RM_fits_26 ?_
    refine lv_if_ne (tgt := 56) hx hb d_RM_fits_29 (by decide) (fun c2 => ?_) (fun c2 => absurd c2 (by decide))
    refine lv_iconst (v := 0) hx hb d_RM_fits_56 (by decide) ?_
    rw [← hQ]
    have hz : (0 : Int32) = 0 ∨ (0 : Int32) = 1 := Or.inl rfl
    exact W.zret (v := (0 : Int32)) hx hb hr (zb_n hz) (fun t ht hW => ⟨⟨(0 : Int32), wI S 33 0 (1 : Int32), rfl, ⟨hf.symm, hz⟩, by rw [ht]; exact hP, va_K.moved hW.alike hK⟩, hS.F ht⟩) hS.2.2 d_RM_fits_57
  · rw [if_pos c1] at hf
    refine lv_aload_n hx hb d_RM_fits_9 rfl (lv_at hl 0 rfl) ?_
    refine lv_iload_n hx hb d_RM_fits_10 rfl (lv_at hl 2 rfl) ?_
    refine va_calli (va_runV (As := [.int a2]) (rest := [.ref (ad 33)]) ⟨hx, hb, hml, hown, ht⟩ (c_RM_noDoor l D cA ad hI H.size a2 S (fun hn => hs (by rw [hn] at hf; exact hf.symm))) (cwV 1 ht (good_G (gV mM_RM_53 mI_RM_noDoor mV_RM_noDoor mN_RM mk_RM_noDoor)) rfl rfl rfl (by decide +kernel) ⟨Nat.le_of_ble_eq_true rfl, Nat.le_of_ble_eq_true rfl⟩) ⟨fun a U g mk q => ⟨q.1, q.2.1, q.2.2.1, va_K.moved (u := U) (U := U.calling g mk a) (Vm.Alike.refl U.vm) q.2.2.2⟩, va_recv hK hP (ci := 5) (q0 := 33) rfl Xa_33, fun U hU hW => ⟨rfl, by rw [hU], by rw [hU]; exact hP, va_K.moved hW.alike hK⟩⟩ rfl rfl hl.1 rfl (lv_room (Nat.le_of_ble_eq_true rfl)) d_RM_fits_11 ⟨Nat.le_of_ble_eq_true rfl, Nat.le_of_ble_eq_true rfl⟩) hS (fun q _ h => hAS _ hS.1 q h) (fun q h => hAS _ hS.1 q h) (fun r2 _ t H locs ht9 hvm hw hB hz1 hk1 hS => ?_)
    obtain ⟨hP, hK9⟩ := hB
    rw [ht9] at hP
    obtain ⟨hw, hz2⟩ := hw
    rw [hw, Option.bind_some] at hf
    refine lv_if_eq (tgt := 21) hx hb d_RM_fits_14 (by decide) (fun c3 => ?_) (fun c3 => ?_)
    · rw [if_pos c3] at hf
      refine lv_iconst (v := 0) hx hb d_RM_fits_21 (by decide) ?_
      refine va_put (D := D) (ci := 5) (v := .int (0 : Int32)) (ty := .int) (C := R_RM) (T := T_RM) (N := 13) hx hb ht i_RM t_RM t_RM_ok n_RM hown hK hP (X_D hI hAd) hS 33 Xa_33 rfl 0 (by decide) (ht _ mF_RM_36) (fun _ h9 => h9) rfl (by decide +kernel) rfl rfl (Nat.le_of_ble_eq_true rfl) d_RM_fits_22 (fun H locs hP _ hS => ?_)
      replace hP := X_putI (by decide) hP rfl
      refine lv_aload_n hx hb d_RM_fits_25 rfl (lv_at hl 0 rfl) ?_
      refine va_get (D := D) (ci := 5) (v := .int (0 : Int32)) (C := R_RM) (T := T_RM) (N := 13) hx hb ht i_RM hown hK hP 33 Xa_33 rfl 0 (by decide) (ht _ mF_RM_36) (fun _ h9 => h9) rfl d_RM_fits_26 ?_
      refine lv_if_ne (tgt := 56) hx hb d_RM_fits_29 (by decide) (fun c4 => absurd c4 (by decide)) (fun c4 => ?_)
      refine lv_aload_n hx hb d_RM_fits_32 rfl (lv_at hl 0 rfl) ?_
      refine va_get (D := D) (ci := 5) (v := .int (S.1 33 9)) (C := R_RM) (T := T_RM) (N := 13) hx hb ht i_RM hown hK hP 33 Xa_33 rfl 9 (by decide) (ht _ mF_RM_45) (fun _ h9 => h9) rfl d_RM_fits_33 ?_
      refine lv_if_eq (tgt := 56) hx hb d_RM_fits_36 (by decide) (fun c5 => ?_) (fun c5 => ?_)
      · rw [if_pos c5] at hf
        refine lv_iconst (v := 0) hx hb d_RM_fits_56 (by decide) ?_
        rw [← hQ]
        have hz : (0 : Int32) = 0 ∨ (0 : Int32) = 1 := Or.inl rfl
        exact W.zret (v := (0 : Int32)) hx hb hr (zb_n hz) (fun t ht hW => ⟨⟨(0 : Int32), wI S 33 0 (0 : Int32), rfl, ⟨hf.symm, hz⟩, by rw [ht]; exact hP, va_K.moved hW.alike hK⟩, hS.F ht⟩) hS.2.2 d_RM_fits_57
      · rw [if_neg c5] at hf
        refine lv_aload_n hx hb d_RM_fits_39 rfl (lv_at hl 0 rfl) ?_
        refine lv_aload_n hx hb d_RM_fits_40 rfl (lv_at hl 0 rfl) ?_
        refine va_get (D := D) (ci := 5) (v := .int (S.1 33 3)) (C := R_RM) (T := T_RM) (N := 13) hx hb ht i_RM hown hK hP 33 Xa_33 rfl 3 (by decide) (ht _ mF_RM_39) (fun _ h9 => h9) rfl d_RM_fits_41 ?_
        refine lv_iload_n hx hb d_RM_fits_44 rfl (lv_at hl 1 rfl) ?_
        refine lv_iload_n hx hb d_RM_fits_45 rfl (lv_at hl 2 rfl) ?_
        refine va_calli (va_runV (As := [.int (S.1 33 3), .int a1, .int a2]) (rest := []) ⟨hx, hb, hml, hown, ht⟩ (c_RM_isFitting l D cA ad hI H.size (S.1 33 3) a1 a2 (wI S 33 0 (0 : Int32)) (fun hn => hs (by rw [hn] at hf; exact hf.symm))) (cwV 3 ht (good_G (gV mM_RM_71 mI_RM_isFitting mV_RM_isFitting mN_RM mk_RM_isFitting)) rfl rfl rfl (by decide +kernel) ⟨Nat.le_of_ble_eq_true rfl, Nat.le_of_ble_eq_true rfl⟩) ⟨fun a U g mk q => ⟨q.1, q.2.1, q.2.2.1, va_K.moved (u := U) (U := U.calling g mk a) (Vm.Alike.refl U.vm) q.2.2.2⟩, va_recv hK hP (ci := 5) (q0 := 33) rfl Xa_33, fun U hU hW => ⟨rfl, by rw [hU], by rw [hU]; exact hP, va_K.moved hW.alike hK⟩⟩ rfl rfl hl.1 rfl (lv_room (Nat.le_of_ble_eq_true rfl)) d_RM_fits_46 ⟨Nat.le_of_ble_eq_true rfl, Nat.le_of_ble_eq_true rfl⟩) hS (fun q _ h => hAS _ hS.1 q h) (fun q h => hAS _ hS.1 q h) (fun r3 _ t H locs ht9 hvm hw hB hz1 hk1 hS => ?_)
        obtain ⟨hP, hK9⟩ := hB
        rw [ht9] at hP
        obtain ⟨hw, hz3⟩ := hw
        rw [hw, Option.bind_some] at hf
        refine lv_if_eq (tgt := 56) hx hb d_RM_fits_49 (by decide) (fun c6 => ?_) (fun c6 => ?_)
        · rw [if_pos c6] at hf
          refine lv_iconst (v := 0) hx hb d_RM_fits_56 (by decide) ?_
          rw [← hQ]
          have hz : (0 : Int32) = 0 ∨ (0 : Int32) = 1 := Or.inl rfl
          exact W.zret (v := (0 : Int32)) hx hb hr (zb_n hz) (fun t ht hW => ⟨⟨(0 : Int32), wI S 33 0 (0 : Int32), rfl, ⟨hf.symm, hz⟩, by rw [ht]; exact hP, va_K.moved hW.alike hK⟩, hS.F ht⟩) hS.2.2 d_RM_fits_57
        · rw [if_neg c6] at hf
          refine lv_iconst (v := 1) hx hb d_RM_fits_52 (by decide) ?_
          refine lv_goto (tgt := 57) hx hb d_RM_fits_53 (by decide) ?_
          rw [← hQ]
          have hz : (1 : Int32) = 0 ∨ (1 : Int32) = 1 := Or.inr rfl
          exact W.zret (v := (1 : Int32)) hx hb hr (zb_n hz) (fun t ht hW => ⟨⟨(1 : Int32), wI S 33 0 (0 : Int32), rfl, ⟨hf.symm, hz⟩, by rw [ht]; exact hP, va_K.moved hW.alike hK⟩, hS.F ht⟩) hS.2.2 d_RM_fits_57
    · rw [if_neg c3] at hf
      refine lv_iconst (v := 1) hx hb d_RM_fits_17 (by decide) ?_
      refine lv_goto (tgt := 22) hx hb d_RM_fits_18 (by decide) ?_
      refine va_put (D := D) (ci := 5) (v := .int (1 : Int32)) (ty := .int) (C := R_RM) (T := T_RM) (N := 13) hx hb ht i_RM t_RM t_RM_ok n_RM hown hK hP (X_D hI hAd) hS 33 Xa_33 rfl 0 (by decide) (ht _ mF_RM_36) (fun _ h9 => h9) rfl (by decide +kernel) rfl rfl (Nat.le_of_ble_eq_true rfl) d_RM_fits_22 (fun H locs hP _ hS => ?_)
      replace hP := X_putI (by decide) hP rfl
      refine lv_aload_n hx hb d_RM_fits_25 rfl (lv_at hl 0 rfl) ?_
      refine va_get (D := D) (ci := 5) (v := .int (1 : Int32)) (C := R_RM) (T := T_RM) (N := 13) hx hb ht i_RM hown hK hP 33 Xa_33 rfl 0 (by decide) (ht _ mF_RM_36) (fun _ h9 => h9) rfl d_RM_fits_26 ?_
      refine lv_if_ne (tgt := 56) hx hb d_RM_fits_29 (by decide) (fun c7 => ?_) (fun c7 => absurd c7 (by decide))
      refine lv_iconst (v := 0) hx hb d_RM_fits_56 (by decide) ?_
      rw [← hQ]
      have hz : (0 : Int32) = 0 ∨ (0 : Int32) = 1 := Or.inl rfl
      exact W.zret (v := (0 : Int32)) hx hb hr (zb_n hz) (fun t ht hW => ⟨⟨(0 : Int32), wI S 33 0 (1 : Int32), rfl, ⟨hf.symm, hz⟩, by rw [ht]; exact hP, va_K.moved hW.alike hK⟩, hS.F ht⟩) hS.2.2 d_RM_fits_57
set_option maxHeartbeats 4000000 in
set_option maxRecDepth 100000 in
theorem c_RM_wrong (l : Launch) (D : va_G) (cA : Nat → ClassId) (ad : Nat → Nat) (hI : InjA ad) (sz : Nat) (S : SS) (hs : f_RM_wrong S ≠ none) : Met l y_RM_wrong w_RM_wrong ({ frames := 2, cells := 0, slots := 0, locals := 51 }) (va_Pc [.ref (ad 33)] (fun U => U.heap.size = sz ∧ va_P D vwCl (X cA ad S) U.heap ∧ va_K D vwCl (tysX cA) U)) (va_Qi (fun (r : Int32) (u : SS) => f_RM_wrong S = some (r, u)) (fun (u : SS) t => va_P D vwCl (X cA ad u) t.heap ∧ va_K D vwCl (tysX cA) t) (AS ad sz)) 0 0 (AS ad sz) := by
  refine Met.ofW (cc := b_RM_wrong) (maxL := 4) (ret := (some .int)) (by decide) rfl ?_
  intro p e s m args below meth c s₁ B hml hv
  obtain ⟨rfl, hsz, hP, hK⟩ := hv
  have hx := B.exec
  have hb := B.bytes
  have hr := B.returns
  have hts := atoms_spec (ws := w_RM_wrong) B.pre
  have ht := fun w h => hts w (List.mem_cons_of_mem _ h)
  have hown : s.vm.findClass R_RM = some m.cls := findClass_of_methodNamed B.named
  have hlocks := B.notSynchronized
  subst hsz
  have hAd : ∀ q, q < NP → AS ad s.heap.size (ad q) := fun q h => Or.inl ⟨q, h, rfl⟩
  have hA : ∀ q : Nat, s.heap.size ≤ q → AS ad s.heap.size q := fun q h => Or.inr h
  have hAS : ∀ z : Nat, s.heap.size ≤ z → ∀ q : Nat, AS ad z q → AS ad s.heap.size q := fun z h q hq => hq.elim Or.inl (fun g => Or.inr (Nat.le_trans h g))
  generalize hAe : AS ad s.heap.size = A at hAd hA hAS ⊢
  have hS : va_S A s.heap s.heap [] := va_S.rf
  have hl := lv_entry ([.ref (ad 33)]) (n := 4) (Nat.le_of_ble_eq_true rfl)
  rw [lg_entry_eq]
  generalize (lg_sl ([.ref (ad 33)]) ++ List.replicate (4 - (lg_sl ([.ref (ad 33)])).length) Slot.unset).toArray = ls at hl ⊢
  have hl : lv_has ls 4 [(0, .ref (ad 33))] := hl
  have hf := (f_RM_wrong_s S).symm
  generalize hQ : MQ below _ _ s _ _ _ = Q
  refine lv_aload_n hx hb d_RM_wrong_0 rfl (lv_at hl 0 rfl) ?_
  refine lv_iconst (v := 0) hx hb d_RM_wrong_1 (by decide) ?_
  refine va_put (D := D) (ci := 5) (v := .int (0 : Int32)) (ty := .int) (C := R_RM) (T := T_RM) (N := 13) hx hb ht i_RM t_RM t_RM_ok n_RM hown hK hP (X_D hI hAd) hS 33 Xa_33 rfl 0 (by decide) (ht _ mF_RM_36) (fun _ h9 => h9) rfl (by decide +kernel) rfl rfl (Nat.le_of_ble_eq_true rfl) d_RM_wrong_2 (fun H locs hP _ hS => ?_)
  replace hP := X_putI (by decide) hP rfl
  refine lv_aload_n hx hb d_RM_wrong_5 rfl (lv_at hl 0 rfl) ?_
  refine va_get (D := D) (ci := 5) (v := .int (S.1 33 9)) (C := R_RM) (T := T_RM) (N := 13) hx hb ht i_RM hown hK hP 33 Xa_33 rfl 9 (by decide) (ht _ mF_RM_45) (fun _ h9 => h9) rfl d_RM_wrong_6 ?_
  refine lv_if_ne (tgt := 14) hx hb d_RM_wrong_9 (by decide) (fun c1 => ?_) (fun c1 => ?_)
  · rw [if_neg c1] at hf
    refine lv_iconst (v := 0) hx hb d_RM_wrong_14 (by decide) ?_
    refine lv_istore_n (lv' := [(1, .int (0 : Int32)), (0, .ref (ad 33))]) hx hb d_RM_wrong_15 rfl hl (by decide) rfl (fun ls hl => ?_)
    refine lv_iconst (v := 0) hx hb d_RM_wrong_16 (by decide) ?_
    refine lv_istore_n (lv' := [(2, .int (0 : Int32)), (1, .int (0 : Int32)), (0, .ref (ad 33))]) hx hb d_RM_wrong_17 rfl hl (by decide) rfl (fun ls hl => ?_)
    have lp18_1 : ∀ (n : Nat) (x1_1 : Int32) (x2_1 : Int32) (Sx : SS) (H : Heap) (locs : List Loc) (ls : Array Slot), va_P D vwCl (X cA ad Sx) H → va_S A s.heap H locs → lv_has ls 4 [(0, .ref (ad 33)), (1, .int x1_1), (2, .int x2_1)] → f_RM_wrong_L18 n x1_1 x2_1 Sx ≠ none →
        (∀ v : Int32, f_RM_wrong_L18 n x1_1 x2_1 Sx = some v → ∀ (H : Heap) (locs : List Loc) (ls : Array Slot), va_P D vwCl (X cA ad Sx) H → va_S A s.heap H locs → lv_has ls 4 [(0, .ref (ad 33)), (1, .int v)] → W p l e (headSpec w_RM_wrong ({ frames := 2, cells := 0, slots := 0, locals := 51 })).room s m ([.ref (ad 33)] : List Value).toArray below meth c H locs 0 0 Q (F0 m 80 ls [])) →
        W p l e (headSpec w_RM_wrong ({ frames := 2, cells := 0, slots := 0, locals := 51 })).room s m ([.ref (ad 33)] : List Value).toArray below meth c H locs 0 0 Q (F0 m 18 ls []) := by
      intro n
      induction n with
      | zero => intro x1_1 x2_1 Sx H locs ls hP hS hl hs; exact absurd rfl hs
      | succ n ih =>
        intro x1_1 x2_1 Sx H locs ls hP hS hl hs hexit
        have hf := (f_RM_wrong_L18_s n x1_1 x2_1 Sx).symm
        refine lv_iload_n hx hb d_RM_wrong_18 rfl (lv_at hl 2 rfl) ?_
        refine lv_aload_n hx hb d_RM_wrong_19 rfl (lv_at hl 0 rfl) ?_
        refine va_get (D := D) (ci := 5) (v := .int (Sx.1 33 3)) (C := R_RM) (T := T_RM) (N := 13) hx hb ht i_RM hown hK hP 33 Xa_33 rfl 3 (by decide) (ht _ mF_RM_39) (fun _ h9 => h9) rfl d_RM_wrong_20 ?_
        refine lv_icmp_ge (tgt := 80) hx hb d_RM_wrong_23 (by decide) (fun c2 => ?_) (fun c2 => ?_)
        · rw [if_pos c2] at hf
          exact hexit _ hf.symm _ _ _ hP hS (lv_sub hl [0, 1] rfl)
        · rw [if_neg c2] at hf
          refine lv_iconst (v := 0) hx hb d_RM_wrong_26 (by decide) ?_
          refine lv_istore_n (lv' := [(3, .int (0 : Int32)), (0, .ref (ad 33)), (1, .int x1_1), (2, .int x2_1)]) hx hb d_RM_wrong_27 rfl hl (by decide) rfl (fun ls hl => ?_)
          have lp28_2 : ∀ (n : Nat) (x1_2 : Int32) (x3_2 : Int32) (H : Heap) (locs : List Loc) (ls : Array Slot), va_P D vwCl (X cA ad Sx) H → va_S A s.heap H locs → lv_has ls 4 [(0, .ref (ad 33)), (2, .int x2_1), (1, .int x1_2), (3, .int x3_2)] → f_RM_wrong_L28 x2_1 n x1_2 x3_2 Sx ≠ none →
              (∀ v : Int32, f_RM_wrong_L28 x2_1 n x1_2 x3_2 Sx = some v → ∀ (H : Heap) (locs : List Loc) (ls : Array Slot), va_P D vwCl (X cA ad Sx) H → va_S A s.heap H locs → lv_has ls 4 [(0, .ref (ad 33)), (2, .int x2_1), (1, .int v)] → W p l e (headSpec w_RM_wrong ({ frames := 2, cells := 0, slots := 0, locals := 51 })).room s m ([.ref (ad 33)] : List Value).toArray below meth c H locs 0 0 Q (F0 m 74 ls [])) →
              W p l e (headSpec w_RM_wrong ({ frames := 2, cells := 0, slots := 0, locals := 51 })).room s m ([.ref (ad 33)] : List Value).toArray below meth c H locs 0 0 Q (F0 m 28 ls []) := by
            intro n
            induction n with
            | zero => intro x1_2 x3_2 H locs ls hP hS hl hs; exact absurd rfl hs
            | succ n ih =>
              intro x1_2 x3_2 H locs ls hP hS hl hs hexit
              have hf := (f_RM_wrong_L28_s x2_1 n x1_2 x3_2 Sx).symm
              refine lv_iload_n hx hb d_RM_wrong_28 rfl (lv_at hl 3 rfl) ?_
              refine lv_aload_n hx hb d_RM_wrong_29 rfl (lv_at hl 0 rfl) ?_
              refine va_get (D := D) (ci := 5) (v := .int (Sx.1 33 4)) (C := R_RM) (T := T_RM) (N := 13) hx hb ht i_RM hown hK hP 33 Xa_33 rfl 4 (by decide) (ht _ mF_RM_42) (fun _ h9 => h9) rfl d_RM_wrong_30 ?_
              refine lv_icmp_ge (tgt := 74) hx hb d_RM_wrong_33 (by decide) (fun c3 => ?_) (fun c3 => ?_)
              · rw [if_pos c3] at hf
                exact hexit _ hf.symm _ _ _ hP hS (lv_sub hl [0, 1, 2] rfl)
              · rw [if_neg c3] at hf
                refine lv_iload_n hx hb d_RM_wrong_36 rfl (lv_at hl 2 rfl) ?_
                refine lv_aload_n hx hb d_RM_wrong_37 rfl (lv_at hl 0 rfl) ?_
                refine lv_aload_n hx hb d_RM_wrong_38 rfl (lv_at hl 0 rfl) ?_
                refine va_get (D := D) (ci := 5) (v := .int (Sx.1 33 3)) (C := R_RM) (T := T_RM) (N := 13) hx hb ht i_RM hown hK hP 33 Xa_33 rfl 3 (by decide) (ht _ mF_RM_39) (fun _ h9 => h9) rfl d_RM_wrong_39 ?_
                refine lv_iload_n hx hb d_RM_wrong_42 rfl (lv_at hl 1 rfl) ?_
                refine lv_iload_n hx hb d_RM_wrong_43 rfl (lv_at hl 3 rfl) ?_
                refine va_calli (va_runV (As := [.int (Sx.1 33 3), .int x2_1, .int x3_2]) (rest := [.int x1_2]) ⟨hx, hb, hml, hown, ht⟩ (c_RM_isFitting l D cA ad hI H.size (Sx.1 33 3) x2_1 x3_2 Sx (fun hn => hs (by rw [hn] at hf; exact hf.symm))) (cwV 3 ht (good_G (gV mM_RM_71 mI_RM_isFitting mV_RM_isFitting mN_RM mk_RM_isFitting)) rfl rfl rfl (by decide +kernel) ⟨Nat.le_of_ble_eq_true rfl, Nat.le_of_ble_eq_true rfl⟩) ⟨fun a U g mk q => ⟨q.1, q.2.1, q.2.2.1, va_K.moved (u := U) (U := U.calling g mk a) (Vm.Alike.refl U.vm) q.2.2.2⟩, va_recv hK hP (ci := 5) (q0 := 33) rfl Xa_33, fun U hU hW => ⟨rfl, by rw [hU], by rw [hU]; exact hP, va_K.moved hW.alike hK⟩⟩ rfl rfl hl.1 rfl (lv_room (Nat.le_of_ble_eq_true rfl)) d_RM_wrong_44 ⟨Nat.le_of_ble_eq_true rfl, Nat.le_of_ble_eq_true rfl⟩) hS (fun q _ h => hAS _ hS.1 q h) (fun q h => hAS _ hS.1 q h) (fun r1 _ t H locs ht9 hvm hw hB hz1 hk1 hS => ?_)
                obtain ⟨hP, hK9⟩ := hB
                rw [ht9] at hP
                obtain ⟨hw, hz1⟩ := hw
                rw [hw, Option.bind_some] at hf
                refine lv_aload_n hx hb d_RM_wrong_47 rfl (lv_at hl 0 rfl) ?_
                refine va_get (D := D) (ci := 5) (v := .ref (ad 34)) (C := R_RM) (T := T_RM) (N := 13) hx hb ht i_RM hown hK hP 33 Xa_33 rfl 5 (by decide) (ht _ mF_RM_7) (fun _ h9 => h9) rfl d_RM_wrong_48 ?_
                refine lv_bipush (v := 6) hx hb d_RM_wrong_51 (by decide) ?_
                refine lv_iload_n hx hb d_RM_wrong_53 rfl (lv_at hl 1 rfl) ?_
                refine lv_imul hx hb d_RM_wrong_54 ?_
                refine lv_iload_n hx hb d_RM_wrong_55 rfl (lv_at hl 3 rfl) ?_
                refine lv_iadd hx hb d_RM_wrong_56 ?_
                by_cases b4 : oob (((6 : Int32) * x2_1) + x3_2) 48
                · rw [if_pos b4] at hf; exact absurd hf.symm hs
                rw [if_neg b4] at hf
                refine va_zald (f := Sx.1 34) hx hb hK hP 34 4 Xa_34 rfl b4 d_RM_wrong_57 ?_
                refine lv_icmp_eq (tgt := 65) hx hb d_RM_wrong_58 (by decide) (fun c5 => ?_) (fun c5 => ?_)
                · rw [if_pos c5] at hf
                  refine lv_iconst (v := 0) hx hb d_RM_wrong_65 (by decide) ?_
                  refine lv_iadd hx hb d_RM_wrong_66 ?_
                  refine lv_istore_n (lv' := [(1, .int (x1_2 + (0 : Int32))), (0, .ref (ad 33)), (2, .int x2_1), (3, .int x3_2)]) hx hb d_RM_wrong_67 rfl hl (by decide) rfl (fun ls hl => ?_)
                  refine lv_iinc (v := x3_2 + 1) (lv' := [(3, .int (x3_2 + 1)), (1, .int (x1_2 + (0 : Int32))), (0, .ref (ad 33)), (2, .int x2_1)]) hx hb d_RM_wrong_68 hl (k := 3) rfl rfl (by decide) rfl (fun ls hl => ?_)
                  refine lv_goto (tgt := 28) hx hb d_RM_wrong_71 (by decide) ?_
                  exact ih (x1_2 + (0 : Int32)) (x3_2 + 1) _ _ _ hP hS (lv_sub hl [2, 3, 1, 0] rfl) (fun hn => hs (hf.symm.trans hn)) (fun v ho => hexit v (hf.symm.trans ho))
                · rw [if_neg c5] at hf
                  refine lv_iconst (v := 1) hx hb d_RM_wrong_61 (by decide) ?_
                  refine lv_goto (tgt := 66) hx hb d_RM_wrong_62 (by decide) ?_
                  refine lv_iadd hx hb d_RM_wrong_66 ?_
                  refine lv_istore_n (lv' := [(1, .int (x1_2 + (1 : Int32))), (0, .ref (ad 33)), (2, .int x2_1), (3, .int x3_2)]) hx hb d_RM_wrong_67 rfl hl (by decide) rfl (fun ls hl => ?_)
                  refine lv_iinc (v := x3_2 + 1) (lv' := [(3, .int (x3_2 + 1)), (1, .int (x1_2 + (1 : Int32))), (0, .ref (ad 33)), (2, .int x2_1)]) hx hb d_RM_wrong_68 hl (k := 3) rfl rfl (by decide) rfl (fun ls hl => ?_)
                  refine lv_goto (tgt := 28) hx hb d_RM_wrong_71 (by decide) ?_
                  exact ih (x1_2 + (1 : Int32)) (x3_2 + 1) _ _ _ hP hS (lv_sub hl [2, 3, 1, 0] rfl) (fun hn => hs (hf.symm.trans hn)) (fun v ho => hexit v (hf.symm.trans ho))
          refine lp28_2 FU x1_1 (0 : Int32) _ _ _ hP hS (lv_sub hl [1, 3, 2, 0] rfl) (fun hn => ?_) (fun v6 hvv6 H locs ls hP hS hl => ?_)
          · rw [hn] at hf; exact hs hf.symm
          · rw [hvv6, Option.bind_some] at hf
            refine lv_iinc (v := x2_1 + 1) (lv' := [(2, .int (x2_1 + 1)), (0, .ref (ad 33)), (1, .int v6)]) hx hb d_RM_wrong_74 hl (k := 1) rfl rfl (by decide) rfl (fun ls hl => ?_)
            refine lv_goto (tgt := 18) hx hb d_RM_wrong_77 (by decide) ?_
            exact ih v6 (x2_1 + 1) Sx _ _ _ hP hS (lv_sub hl [1, 2, 0] rfl) (fun hn => hs (hf.symm.trans hn)) (fun v ho => hexit v (hf.symm.trans ho))
    refine lp18_1 FU (0 : Int32) (0 : Int32) (wI S 33 0 (0 : Int32)) _ _ _ hP hS (lv_sub hl [2, 1, 0] rfl) (fun hn => ?_) (fun v7 hvv7 H locs ls hP hS hl => ?_)
    · rw [hn] at hf; exact hs hf.symm
    · rw [hvv7, Option.bind_some] at hf
      refine lv_iload_n hx hb d_RM_wrong_80 rfl (lv_at hl 1 rfl) ?_
      rw [← hQ]
      exact W.iret (v := v7) hx hb hr (fun t ht hW => ⟨⟨v7, wI S 33 0 (0 : Int32), rfl, hf.symm, by rw [ht]; exact hP, va_K.moved hW.alike hK⟩, hS.F ht⟩) hS.2.2 d_RM_wrong_81
  · rw [if_pos c1] at hf
    refine lv_iconst (v := (-1)) hx hb d_RM_wrong_12 (by decide) ?_
    rw [← hQ]
    exact W.iret (v := (-1 : Int32)) hx hb hr (fun t ht hW => ⟨⟨(-1 : Int32), wI S 33 0 (0 : Int32), rfl, hf.symm, by rw [ht]; exact hP, va_K.moved hW.alike hK⟩, hS.F ht⟩) hS.2.2 d_RM_wrong_13
set_option maxHeartbeats 4000000 in
set_option maxRecDepth 100000 in
theorem c_RM_rows (l : Launch) (D : va_G) (cA : Nat → ClassId) (ad : Nat → Nat) (hI : InjA ad) (sz : Nat) (S : SS) (hs : f_RM_rows S ≠ none) : Met l y_RM_rows w_RM_rows ({ frames := 0, cells := 0, slots := 0, locals := 0 }) (va_Pc [.ref (ad 33)] (fun U => U.heap.size = sz ∧ va_P D vwCl (X cA ad S) U.heap ∧ va_K D vwCl (tysX cA) U)) (va_Qi (fun (r : Int32) (_ : Unit) => f_RM_rows S = some r) (fun (_ : Unit) t => va_P D vwCl (X cA ad S) t.heap ∧ va_K D vwCl (tysX cA) t) (AS ad sz)) 0 0 (AS ad sz) := by
  refine Met.ofW (cc := b_RM_rows) (maxL := 3) (ret := (some .int)) (by decide) rfl ?_
  intro p e s m args below meth c s₁ B hml hv
  obtain ⟨rfl, hsz, hP, hK⟩ := hv
  have hx := B.exec
  have hb := B.bytes
  have hr := B.returns
  have hts := atoms_spec (ws := w_RM_rows) B.pre
  have ht := fun w h => hts w (List.mem_cons_of_mem _ h)
  have hown : s.vm.findClass R_RM = some m.cls := findClass_of_methodNamed B.named
  have hlocks := B.notSynchronized
  subst hsz
  have hAd : ∀ q, q < NP → AS ad s.heap.size (ad q) := fun q h => Or.inl ⟨q, h, rfl⟩
  have hA : ∀ q : Nat, s.heap.size ≤ q → AS ad s.heap.size q := fun q h => Or.inr h
  have hAS : ∀ z : Nat, s.heap.size ≤ z → ∀ q : Nat, AS ad z q → AS ad s.heap.size q := fun z h q hq => hq.elim Or.inl (fun g => Or.inr (Nat.le_trans h g))
  generalize hAe : AS ad s.heap.size = A at hAd hA hAS ⊢
  have hS : va_S A s.heap s.heap [] := va_S.rf
  have hl := lv_entry ([.ref (ad 33)]) (n := 3) (Nat.le_of_ble_eq_true rfl)
  rw [lg_entry_eq]
  generalize (lg_sl ([.ref (ad 33)]) ++ List.replicate (3 - (lg_sl ([.ref (ad 33)])).length) Slot.unset).toArray = ls at hl ⊢
  have hl : lv_has ls 3 [(0, .ref (ad 33))] := hl
  have hf := (f_RM_rows_s S).symm
  generalize hQ : MQ below _ _ s _ _ _ = Q
  refine lv_iconst (v := 1) hx hb d_RM_rows_0 (by decide) ?_
  refine lv_istore_n (lv' := [(1, .int (1 : Int32)), (0, .ref (ad 33))]) hx hb d_RM_rows_1 rfl hl (by decide) rfl (fun ls hl => ?_)
  refine lv_iconst (v := 0) hx hb d_RM_rows_2 (by decide) ?_
  refine lv_istore_n (lv' := [(2, .int (0 : Int32)), (1, .int (1 : Int32)), (0, .ref (ad 33))]) hx hb d_RM_rows_3 rfl hl (by decide) rfl (fun ls hl => ?_)
  have lp4_1 : ∀ (n : Nat) (x1_1 : Int32) (x2_1 : Int32) (H : Heap) (locs : List Loc) (ls : Array Slot), va_P D vwCl (X cA ad S) H → va_S A s.heap H locs → lv_has ls 3 [(0, .ref (ad 33)), (1, .int x1_1), (2, .int x2_1)] → f_RM_rows_L4 n x1_1 x2_1 S ≠ none →
      (∀ v : Int32, f_RM_rows_L4 n x1_1 x2_1 S = some v → ∀ (H : Heap) (locs : List Loc) (ls : Array Slot), va_P D vwCl (X cA ad S) H → va_S A s.heap H locs → lv_has ls 3 [(0, .ref (ad 33)), (1, .int v)] → W p l e (headSpec w_RM_rows ({ frames := 0, cells := 0, slots := 0, locals := 0 })).room s m ([.ref (ad 33)] : List Value).toArray below meth c H locs 0 0 Q (F0 m 25 ls [])) →
      W p l e (headSpec w_RM_rows ({ frames := 0, cells := 0, slots := 0, locals := 0 })).room s m ([.ref (ad 33)] : List Value).toArray below meth c H locs 0 0 Q (F0 m 4 ls []) := by
    intro n
    induction n with
    | zero => intro x1_1 x2_1 H locs ls hP hS hl hs; exact absurd rfl hs
    | succ n ih =>
      intro x1_1 x2_1 H locs ls hP hS hl hs hexit
      have hf := (f_RM_rows_L4_s n x1_1 x2_1 S).symm
      refine lv_iload_n hx hb d_RM_rows_4 rfl (lv_at hl 2 rfl) ?_
      refine lv_aload_n hx hb d_RM_rows_5 rfl (lv_at hl 0 rfl) ?_
      refine va_get (D := D) (ci := 5) (v := .int (S.1 33 1)) (C := R_RM) (T := T_RM) (N := 13) hx hb ht i_RM hown hK hP 33 Xa_33 rfl 1 (by decide) (ht _ mF_RM_30) (fun _ h9 => h9) rfl d_RM_rows_6 ?_
      refine lv_icmp_ge (tgt := 25) hx hb d_RM_rows_9 (by decide) (fun c1 => ?_) (fun c1 => ?_)
      · rw [if_pos c1] at hf
        exact hexit _ hf.symm _ _ _ hP hS (lv_sub hl [0, 1] rfl)
      · rw [if_neg c1] at hf
        refine lv_iload_n hx hb d_RM_rows_12 rfl (lv_at hl 1 rfl) ?_
        refine lv_aload_n hx hb d_RM_rows_13 rfl (lv_at hl 0 rfl) ?_
        refine va_get (D := D) (ci := 5) (v := .int (S.1 33 2)) (C := R_RM) (T := T_RM) (N := 13) hx hb ht i_RM hown hK hP 33 Xa_33 rfl 2 (by decide) (ht _ mF_RM_33) (fun _ h9 => h9) rfl d_RM_rows_14 ?_
        refine lv_imul hx hb d_RM_rows_17 ?_
        refine lv_istore_n (lv' := [(1, .int (x1_1 * (S.1 33 2))), (0, .ref (ad 33)), (2, .int x2_1)]) hx hb d_RM_rows_18 rfl hl (by decide) rfl (fun ls hl => ?_)
        refine lv_iinc (v := x2_1 + 1) (lv' := [(2, .int (x2_1 + 1)), (1, .int (x1_1 * (S.1 33 2))), (0, .ref (ad 33))]) hx hb d_RM_rows_19 hl (k := 2) rfl rfl (by decide) rfl (fun ls hl => ?_)
        refine lv_goto (tgt := 4) hx hb d_RM_rows_22 (by decide) ?_
        exact ih (x1_1 * (S.1 33 2)) (x2_1 + 1) _ _ _ hP hS (lv_sub hl [2, 1, 0] rfl) (fun hn => hs (hf.symm.trans hn)) (fun v ho => hexit v (hf.symm.trans ho))
  refine lp4_1 FU (1 : Int32) (0 : Int32) _ _ _ hP hS (lv_sub hl [2, 1, 0] rfl) (fun hn => ?_) (fun v2 hvv2 H locs ls hP hS hl => ?_)
  · rw [hn] at hf; exact hs hf.symm
  · rw [hvv2, Option.bind_some] at hf
    refine lv_iload_n hx hb d_RM_rows_25 rfl (lv_at hl 1 rfl) ?_
    rw [← hQ]
    exact W.iret (v := v2) hx hb hr (fun t ht hW => ⟨⟨v2, (), rfl, hf.symm, by rw [ht]; exact hP, va_K.moved hW.alike hK⟩, hS.F ht⟩) hS.2.2 d_RM_rows_26
set_option maxHeartbeats 4000000 in
set_option maxRecDepth 100000 in
theorem c_RM_isFree (l : Launch) (D : va_G) (cA : Nat → ClassId) (ad : Nat → Nat) (hI : InjA ad) (sz : Nat) (a1 : Int32) (S : SS) (hs : f_RM_isFree a1 S ≠ none) : Met l y_RM_isFree w_RM_isFree ({ frames := 1, cells := 0, slots := 0, locals := 23 }) (va_Pc [.ref (ad 33), .int a1] (fun U => U.heap.size = sz ∧ va_P D vwCl (X cA ad S) U.heap ∧ va_K D vwCl (tysX cA) U)) (va_Qi (fun (r : Int32) (u : SS) => f_RM_isFree a1 S = some (r, u) ∧ (r = 0 ∨ r = 1)) (fun (u : SS) t => va_P D vwCl (X cA ad u) t.heap ∧ va_K D vwCl (tysX cA) t) (AS ad sz)) 0 0 (AS ad sz) := by
  refine Met.ofW (cc := b_RM_isFree) (maxL := 7) (ret := (some .boolean)) (by decide) rfl ?_
  intro p e s m args below meth c s₁ B hml hv
  obtain ⟨rfl, hsz, hP, hK⟩ := hv
  have hx := B.exec
  have hb := B.bytes
  have hr := B.returns
  have hts := atoms_spec (ws := w_RM_isFree) B.pre
  have ht := fun w h => hts w (List.mem_cons_of_mem _ h)
  have hown : s.vm.findClass R_RM = some m.cls := findClass_of_methodNamed B.named
  have hlocks := B.notSynchronized
  subst hsz
  have hAd : ∀ q, q < NP → AS ad s.heap.size (ad q) := fun q h => Or.inl ⟨q, h, rfl⟩
  have hA : ∀ q : Nat, s.heap.size ≤ q → AS ad s.heap.size q := fun q h => Or.inr h
  have hAS : ∀ z : Nat, s.heap.size ≤ z → ∀ q : Nat, AS ad z q → AS ad s.heap.size q := fun z h q hq => hq.elim Or.inl (fun g => Or.inr (Nat.le_trans h g))
  generalize hAe : AS ad s.heap.size = A at hAd hA hAS ⊢
  have hS : va_S A s.heap s.heap [] := va_S.rf
  have hl := lv_entry ([.ref (ad 33), .int a1]) (n := 7) (Nat.le_of_ble_eq_true rfl)
  rw [lg_entry_eq]
  generalize (lg_sl ([.ref (ad 33), .int a1]) ++ List.replicate (7 - (lg_sl ([.ref (ad 33), .int a1])).length) Slot.unset).toArray = ls at hl ⊢
  have hl : lv_has ls 7 [(0, .ref (ad 33)), (1, .int a1)] := hl
  have hf := (f_RM_isFree_s a1 S).symm
  generalize hQ : MQ below _ _ s _ _ _ = Q
  refine lv_iload_n hx hb d_RM_isFree_0 rfl (lv_at hl 1 rfl) ?_
  refine lv_istore_n (lv' := [(2, .int a1), (0, .ref (ad 33)), (1, .int a1)]) hx hb d_RM_isFree_1 rfl hl (by decide) rfl (fun ls hl => ?_)
  refine lv_aload_n hx hb d_RM_isFree_2 rfl (lv_at hl 1 rfl) ?_
  refine va_get (D := D) (ci := 5) (v := .int (S.1 33 1)) (C := R_RM) (T := T_RM) (N := 13) hx hb ht i_RM hown hK hP 33 Xa_33 rfl 1 (by decide) (ht _ mF_RM_30) (fun _ h9 => h9) rfl d_RM_isFree_3 ?_
  refine lv_iconst (v := 1) hx hb d_RM_isFree_6 (by decide) ?_
  refine lv_isub hx hb d_RM_isFree_7 ?_
  refine lv_istore_n (lv' := [(3, .int ((S.1 33 1) - (1 : Int32))), (2, .int a1), (0, .ref (ad 33)), (1, .int a1)]) hx hb d_RM_isFree_8 rfl hl (by decide) rfl (fun ls hl => ?_)
  have lp9_1 : ∀ (n : Nat) (x2_1 : Int32) (x3_1 : Int32) (Sx : SS) (H : Heap) (locs : List Loc) (ls : Array Slot), va_P D vwCl (X cA ad Sx) H → va_S A s.heap H locs → lv_has ls 7 [(0, .ref (ad 33)), (2, .int x2_1), (3, .int x3_1)] → f_RM_isFree_L9 n x2_1 x3_1 Sx ≠ none →
      (∀ v : SS, f_RM_isFree_L9 n x2_1 x3_1 Sx = some v → ∀ (H : Heap) (locs : List Loc) (ls : Array Slot), va_P D vwCl (X cA ad v) H → va_S A s.heap H locs → lv_has ls 7 [(0, .ref (ad 33))] → W p l e (headSpec w_RM_isFree ({ frames := 1, cells := 0, slots := 0, locals := 23 })).room s m ([.ref (ad 33), .int a1] : List Value).toArray below meth c H locs 0 0 Q (F0 m 38 ls [])) →
      W p l e (headSpec w_RM_isFree ({ frames := 1, cells := 0, slots := 0, locals := 23 })).room s m ([.ref (ad 33), .int a1] : List Value).toArray below meth c H locs 0 0 Q (F0 m 9 ls []) := by
    intro n
    induction n with
    | zero => intro x2_1 x3_1 Sx H locs ls hP hS hl hs; exact absurd rfl hs
    | succ n ih =>
      intro x2_1 x3_1 Sx H locs ls hP hS hl hs hexit
      have hf := (f_RM_isFree_L9_s n x2_1 x3_1 Sx).symm
      refine lv_iload_n hx hb d_RM_isFree_9 rfl (lv_at hl 2 rfl) ?_
      refine lv_if_lt (tgt := 38) hx hb d_RM_isFree_10 (by decide) (fun c1 => ?_) (fun c1 => ?_)
      · rw [if_pos c1] at hf
        exact hexit _ hf.symm _ _ _ hP hS (lv_sub hl [0] rfl)
      · rw [if_neg c1] at hf
        refine lv_aload_n hx hb d_RM_isFree_13 rfl (lv_at hl 0 rfl) ?_
        refine va_get (D := D) (ci := 5) (v := .ref (ad 37)) (C := R_RM) (T := T_RM) (N := 13) hx hb ht i_RM hown hK hP 33 Xa_33 rfl 12 (by decide) (ht _ mF_RM_27) (fun _ h9 => h9) rfl d_RM_isFree_14 ?_
        refine lv_iload_n hx hb d_RM_isFree_17 rfl (lv_at hl 2 rfl) ?_
        refine lv_iload_n hx hb d_RM_isFree_18 rfl (lv_at hl 1 rfl) ?_
        refine lv_aload_n hx hb d_RM_isFree_19 rfl (lv_at hl 0 rfl) ?_
        refine va_get (D := D) (ci := 5) (v := .int (Sx.1 33 2)) (C := R_RM) (T := T_RM) (N := 13) hx hb ht i_RM hown hK hP 33 Xa_33 rfl 2 (by decide) (ht _ mF_RM_33) (fun _ h9 => h9) rfl d_RM_isFree_20 ?_
        by_cases b2 : (Sx.1 33 2) = 0
        · rw [if_pos b2] at hf; exact absurd hf.symm hs
        rw [if_neg b2] at hf
        refine lv_irem hx hb d_RM_isFree_23 b2 ?_
        by_cases b3 : oob x3_1 6
        · rw [if_pos b3] at hf; exact absurd hf.symm hs
        rw [if_neg b3] at hf
        refine va_iast hx hb hK hP (X_D hI hAd) hS 37 0 Xa_37 rfl b3 d_RM_isFree_24 (fun H locs hP _ hS => ?_)
        replace hP := X_stI (by decide) Xc_37 hP
        refine lv_iload_n hx hb d_RM_isFree_25 rfl (lv_at hl 1 rfl) ?_
        refine lv_aload_n hx hb d_RM_isFree_26 rfl (lv_at hl 0 rfl) ?_
        refine va_get (D := D) (ci := 5) (v := .int (Sx.1 33 2)) (C := R_RM) (T := T_RM) (N := 13) hx hb ht i_RM hown hK hP 33 Xa_33 rfl 2 (by decide) (ht _ mF_RM_33) (fun _ h9 => h9) rfl d_RM_isFree_27 ?_
        refine lv_idiv hx hb d_RM_isFree_30 b2 ?_
        refine lv_istore_n (lv' := [(2, .int (x2_1 / (Sx.1 33 2))), (0, .ref (ad 33)), (3, .int x3_1)]) hx hb d_RM_isFree_31 rfl hl (by decide) rfl (fun ls hl => ?_)
        refine lv_iinc (v := x3_1 + (-1)) (lv' := [(3, .int (x3_1 + (-1))), (2, .int (x2_1 / (Sx.1 33 2))), (0, .ref (ad 33))]) hx hb d_RM_isFree_32 hl (k := 2) rfl rfl (by decide) rfl (fun ls hl => ?_)
        refine lv_goto (tgt := 9) hx hb d_RM_isFree_35 (by decide) ?_
        exact ih (x2_1 / (Sx.1 33 2)) (x3_1 + (-1)) (wI Sx 37 x3_1.toNatClampNeg (x2_1 - x2_1 / (Sx.1 33 2) * (Sx.1 33 2))) _ _ _ hP hS (lv_sub hl [2, 1, 0] rfl) (fun hn => hs (hf.symm.trans hn)) (fun v ho => hexit v (hf.symm.trans ho))
  refine lp9_1 FU a1 ((S.1 33 1) - (1 : Int32)) S _ _ _ hP hS (lv_sub hl [2, 1, 0] rfl) (fun hn => ?_) (fun v4 hvv4 H locs ls hP hS hl => ?_)
  · rw [hn] at hf; exact hs hf.symm
  · rw [hvv4, Option.bind_some] at hf
    refine lv_iconst (v := 1) hx hb d_RM_isFree_38 (by decide) ?_
    refine lv_istore_n (lv' := [(3, .int (1 : Int32)), (0, .ref (ad 33))]) hx hb d_RM_isFree_39 rfl hl (by decide) rfl (fun ls hl => ?_)
    refine lv_iconst (v := 1) hx hb d_RM_isFree_40 (by decide) ?_
    refine lv_istore (lv' := [(4, .int (1 : Int32)), (3, .int (1 : Int32)), (0, .ref (ad 33))]) hx hb d_RM_isFree_41 hl (by decide) rfl (fun ls hl => ?_)
    have lp43_2 : ∀ (n : Nat) (x3_2 : Int32) (x4_2 : Int32) (H : Heap) (locs : List Loc) (ls : Array Slot), va_P D vwCl (X cA ad v4) H → va_S A s.heap H locs → lv_has ls 7 [(0, .ref (ad 33)), (3, .int x3_2), (4, .int x4_2)] → f_RM_isFree_L43 n x3_2 x4_2 v4 ≠ none →
        (∀ v : Int32, f_RM_isFree_L43 n x3_2 x4_2 v4 = some v → ∀ (H : Heap) (locs : List Loc) (ls : Array Slot), va_P D vwCl (X cA ad v4) H → va_S A s.heap H locs → lv_has ls 7 [(0, .ref (ad 33)), (3, .int v)] → W p l e (headSpec w_RM_isFree ({ frames := 1, cells := 0, slots := 0, locals := 23 })).room s m ([.ref (ad 33), .int a1] : List Value).toArray below meth c H locs 0 0 Q (F0 m 91 ls [])) →
        W p l e (headSpec w_RM_isFree ({ frames := 1, cells := 0, slots := 0, locals := 23 })).room s m ([.ref (ad 33), .int a1] : List Value).toArray below meth c H locs 0 0 Q (F0 m 43 ls []) := by
      intro n
      induction n with
      | zero => intro x3_2 x4_2 H locs ls hP hS hl hs; exact absurd rfl hs
      | succ n ih =>
        intro x3_2 x4_2 H locs ls hP hS hl hs hexit
        have hf := (f_RM_isFree_L43_s n x3_2 x4_2 v4).symm
        refine lv_iload hx hb d_RM_isFree_43 (lv_at hl 2 rfl) ?_
        refine lv_aload_n hx hb d_RM_isFree_45 rfl (lv_at hl 0 rfl) ?_
        refine va_get (D := D) (ci := 5) (v := .int (v4.1 33 1)) (C := R_RM) (T := T_RM) (N := 13) hx hb ht i_RM hown hK hP 33 Xa_33 rfl 1 (by decide) (ht _ mF_RM_30) (fun _ h9 => h9) rfl d_RM_isFree_46 ?_
        refine lv_icmp_ge (tgt := 91) hx hb d_RM_isFree_49 (by decide) (fun c5 => ?_) (fun c5 => ?_)
        · rw [if_pos c5] at hf
          exact hexit _ hf.symm _ _ _ hP hS (lv_sub hl [0, 1] rfl)
        · rw [if_neg c5] at hf
          refine lv_iload_n hx hb d_RM_isFree_52 rfl (lv_at hl 1 rfl) ?_
          refine lv_if_eq (tgt := 83) hx hb d_RM_isFree_53 (by decide) (fun c6 => ?_) (fun c6 => ?_)
          · rw [if_pos c6] at hf
            refine lv_iconst (v := 0) hx hb d_RM_isFree_83 (by decide) ?_
            refine lv_istore_n (lv' := [(3, .int (0 : Int32)), (0, .ref (ad 33)), (4, .int x4_2)]) hx hb d_RM_isFree_84 rfl hl (by decide) rfl (fun ls hl => ?_)
            refine lv_iinc (v := x4_2 + 1) (lv' := [(4, .int (x4_2 + 1)), (3, .int (0 : Int32)), (0, .ref (ad 33))]) hx hb d_RM_isFree_85 hl (k := 2) rfl rfl (by decide) rfl (fun ls hl => ?_)
            refine lv_goto (tgt := 43) hx hb d_RM_isFree_88 (by decide) ?_
            exact ih (0 : Int32) (x4_2 + 1) _ _ _ hP hS (lv_sub hl [2, 1, 0] rfl) (fun hn => hs (hf.symm.trans hn)) (fun v ho => hexit v (hf.symm.trans ho))
          · rw [if_neg c6] at hf
            refine lv_aload_n hx hb d_RM_isFree_56 rfl (lv_at hl 0 rfl) ?_
            refine lv_aload_n hx hb d_RM_isFree_57 rfl (lv_at hl 0 rfl) ?_
            refine va_get (D := D) (ci := 5) (v := .ref (ad 37)) (C := R_RM) (T := T_RM) (N := 13) hx hb ht i_RM hown hK hP 33 Xa_33 rfl 12 (by decide) (ht _ mF_RM_27) (fun _ h9 => h9) rfl d_RM_isFree_58 ?_
            refine lv_iload hx hb d_RM_isFree_61 (lv_at hl 2 rfl) ?_
            refine lv_iconst (v := 1) hx hb d_RM_isFree_63 (by decide) ?_
            refine lv_isub hx hb d_RM_isFree_64 ?_
            by_cases b7 : oob (x4_2 - (1 : Int32)) 6
            · rw [if_pos b7] at hf; exact absurd hf.symm hs
            rw [if_neg b7] at hf
            refine va_iald (f := v4.1 37) hx hb hK hP 37 0 Xa_37 rfl b7 d_RM_isFree_65 ?_
            refine lv_aload_n hx hb d_RM_isFree_66 rfl (lv_at hl 0 rfl) ?_
            refine va_get (D := D) (ci := 5) (v := .ref (ad 37)) (C := R_RM) (T := T_RM) (N := 13) hx hb ht i_RM hown hK hP 33 Xa_33 rfl 12 (by decide) (ht _ mF_RM_27) (fun _ h9 => h9) rfl d_RM_isFree_67 ?_
            refine lv_iload hx hb d_RM_isFree_70 (lv_at hl 2 rfl) ?_
            by_cases b8 : oob x4_2 6
            · rw [if_pos b8] at hf; exact absurd hf.symm hs
            rw [if_neg b8] at hf
            refine va_iald (f := v4.1 37) hx hb hK hP 37 0 Xa_37 rfl b8 d_RM_isFree_72 ?_
            refine va_calli (va_runV (As := [.int (v4.1 37 (x4_2 - (1 : Int32)).toNatClampNeg), .int (v4.1 37 x4_2.toNatClampNeg)]) (rest := []) ⟨hx, hb, hml, hown, ht⟩ (c_RM_mayStand l D cA ad hI H.size (v4.1 37 (x4_2 - (1 : Int32)).toNatClampNeg) (v4.1 37 x4_2.toNatClampNeg) v4 (fun hn => hs (by rw [hn] at hf; exact hf.symm))) (cwV 2 ht (good_G (gV mM_RM_78 mI_RM_mayStand mV_RM_mayStand mN_RM mk_RM_mayStand)) rfl rfl rfl (by decide +kernel) ⟨Nat.le_of_ble_eq_true rfl, Nat.le_of_ble_eq_true rfl⟩) ⟨fun a U g mk q => ⟨q.1, q.2.1, q.2.2.1, va_K.moved (u := U) (U := U.calling g mk a) (Vm.Alike.refl U.vm) q.2.2.2⟩, va_recv hK hP (ci := 5) (q0 := 33) rfl Xa_33, fun U hU hW => ⟨rfl, by rw [hU], by rw [hU]; exact hP, va_K.moved hW.alike hK⟩⟩ rfl rfl hl.1 rfl (lv_room (Nat.le_of_ble_eq_true rfl)) d_RM_isFree_73 ⟨Nat.le_of_ble_eq_true rfl, Nat.le_of_ble_eq_true rfl⟩) hS (fun q _ h => hAS _ hS.1 q h) (fun q h => hAS _ hS.1 q h) (fun r1 _ t H locs ht9 hvm hw hB hz1 hk1 hS => ?_)
            obtain ⟨hP, hK9⟩ := hB
            rw [ht9] at hP
            obtain ⟨hw, hz1⟩ := hw
            rw [hw, Option.bind_some] at hf
            refine lv_if_eq (tgt := 83) hx hb d_RM_isFree_76 (by decide) (fun c9 => ?_) (fun c9 => ?_)
            · rw [if_pos c9] at hf
              refine lv_iconst (v := 0) hx hb d_RM_isFree_83 (by decide) ?_
              refine lv_istore_n (lv' := [(3, .int (0 : Int32)), (0, .ref (ad 33)), (4, .int x4_2)]) hx hb d_RM_isFree_84 rfl hl (by decide) rfl (fun ls hl => ?_)
              refine lv_iinc (v := x4_2 + 1) (lv' := [(4, .int (x4_2 + 1)), (3, .int (0 : Int32)), (0, .ref (ad 33))]) hx hb d_RM_isFree_85 hl (k := 2) rfl rfl (by decide) rfl (fun ls hl => ?_)
              refine lv_goto (tgt := 43) hx hb d_RM_isFree_88 (by decide) ?_
              exact ih (0 : Int32) (x4_2 + 1) _ _ _ hP hS (lv_sub hl [2, 1, 0] rfl) (fun hn => hs (hf.symm.trans hn)) (fun v ho => hexit v (hf.symm.trans ho))
            · rw [if_neg c9] at hf
              refine lv_iconst (v := 1) hx hb d_RM_isFree_79 (by decide) ?_
              refine lv_goto (tgt := 84) hx hb d_RM_isFree_80 (by decide) ?_
              refine lv_istore_n (lv' := [(3, .int (1 : Int32)), (0, .ref (ad 33)), (4, .int x4_2)]) hx hb d_RM_isFree_84 rfl hl (by decide) rfl (fun ls hl => ?_)
              refine lv_iinc (v := x4_2 + 1) (lv' := [(4, .int (x4_2 + 1)), (3, .int (1 : Int32)), (0, .ref (ad 33))]) hx hb d_RM_isFree_85 hl (k := 2) rfl rfl (by decide) rfl (fun ls hl => ?_)
              refine lv_goto (tgt := 43) hx hb d_RM_isFree_88 (by decide) ?_
              exact ih (1 : Int32) (x4_2 + 1) _ _ _ hP hS (lv_sub hl [2, 1, 0] rfl) (fun hn => hs (hf.symm.trans hn)) (fun v ho => hexit v (hf.symm.trans ho))
    refine lp43_2 FU (1 : Int32) (1 : Int32) _ _ _ hP hS (lv_sub hl [2, 1, 0] rfl) (fun hn => ?_) (fun v10 hvv10 H locs ls hP hS hl => ?_)
    · rw [hn] at hf; exact hs hf.symm
    · rw [hvv10, Option.bind_some] at hf
      refine lv_iconst (v := 0) hx hb d_RM_isFree_91 (by decide) ?_
      refine lv_istore (lv' := [(4, .int (0 : Int32)), (0, .ref (ad 33)), (3, .int v10)]) hx hb d_RM_isFree_92 hl (by decide) rfl (fun ls hl => ?_)
      have lp94_3 : ∀ (n : Nat) (x3_3 : Int32) (x4_3 : Int32) (H : Heap) (locs : List Loc) (ls : Array Slot), va_P D vwCl (X cA ad v4) H → va_S A s.heap H locs → lv_has ls 7 [(0, .ref (ad 33)), (3, .int x3_3), (4, .int x4_3)] → f_RM_isFree_L94 n x3_3 x4_3 v4 ≠ none →
          (∀ v : Int32, f_RM_isFree_L94 n x3_3 x4_3 v4 = some v → ∀ (H : Heap) (locs : List Loc) (ls : Array Slot), va_P D vwCl (X cA ad v4) H → va_S A s.heap H locs → lv_has ls 7 [(0, .ref (ad 33)), (3, .int v)] → W p l e (headSpec w_RM_isFree ({ frames := 1, cells := 0, slots := 0, locals := 23 })).room s m ([.ref (ad 33), .int a1] : List Value).toArray below meth c H locs 0 0 Q (F0 m 182 ls [])) →
          W p l e (headSpec w_RM_isFree ({ frames := 1, cells := 0, slots := 0, locals := 23 })).room s m ([.ref (ad 33), .int a1] : List Value).toArray below meth c H locs 0 0 Q (F0 m 94 ls []) := by
        intro n
        induction n with
        | zero => intro x3_3 x4_3 H locs ls hP hS hl hs; exact absurd rfl hs
        | succ n ih =>
          intro x3_3 x4_3 H locs ls hP hS hl hs hexit
          have hf := (f_RM_isFree_L94_s n x3_3 x4_3 v4).symm
          refine lv_iload hx hb d_RM_isFree_94 (lv_at hl 2 rfl) ?_
          refine lv_aload_n hx hb d_RM_isFree_96 rfl (lv_at hl 0 rfl) ?_
          refine va_get (D := D) (ci := 5) (v := .int (v4.1 33 3)) (C := R_RM) (T := T_RM) (N := 13) hx hb ht i_RM hown hK hP 33 Xa_33 rfl 3 (by decide) (ht _ mF_RM_39) (fun _ h9 => h9) rfl d_RM_isFree_97 ?_
          refine lv_icmp_ge (tgt := 182) hx hb d_RM_isFree_100 (by decide) (fun c11 => ?_) (fun c11 => ?_)
          · rw [if_pos c11] at hf
            exact hexit _ hf.symm _ _ _ hP hS (lv_sub hl [0, 1] rfl)
          · rw [if_neg c11] at hf
            refine lv_iload_n hx hb d_RM_isFree_103 rfl (lv_at hl 1 rfl) ?_
            refine lv_if_eq (tgt := 182) hx hb d_RM_isFree_104 (by decide) (fun c12 => ?_) (fun c12 => ?_)
            · rw [if_pos c12] at hf
              exact hexit _ hf.symm _ _ _ hP hS (lv_sub hl [0, 1] rfl)
            · rw [if_neg c12] at hf
              refine lv_iconst (v := 1) hx hb d_RM_isFree_107 (by decide) ?_
              refine lv_istore (lv' := [(5, .int (1 : Int32)), (0, .ref (ad 33)), (3, .int x3_3), (4, .int x4_3)]) hx hb d_RM_isFree_108 hl (by decide) rfl (fun ls hl => ?_)
              refine lv_iconst (v := 0) hx hb d_RM_isFree_110 (by decide) ?_
              refine lv_istore (lv' := [(6, .int (0 : Int32)), (5, .int (1 : Int32)), (0, .ref (ad 33)), (3, .int x3_3), (4, .int x4_3)]) hx hb d_RM_isFree_111 hl (by decide) rfl (fun ls hl => ?_)
              have lp113_4 : ∀ (n : Nat) (x5_4 : Int32) (x6_4 : Int32) (H : Heap) (locs : List Loc) (ls : Array Slot), va_P D vwCl (X cA ad v4) H → va_S A s.heap H locs → lv_has ls 7 [(0, .ref (ad 33)), (4, .int x4_3), (5, .int x5_4), (6, .int x6_4)] → f_RM_isFree_L113 x4_3 n x5_4 x6_4 v4 ≠ none →
                  (∀ v : Int32, f_RM_isFree_L113 x4_3 n x5_4 x6_4 v4 = some v → ∀ (H : Heap) (locs : List Loc) (ls : Array Slot), va_P D vwCl (X cA ad v4) H → va_S A s.heap H locs → lv_has ls 7 [(0, .ref (ad 33)), (4, .int x4_3), (5, .int v)] → W p l e (headSpec w_RM_isFree ({ frames := 1, cells := 0, slots := 0, locals := 23 })).room s m ([.ref (ad 33), .int a1] : List Value).toArray below meth c H locs 0 0 Q (F0 m 165 ls [])) →
                  W p l e (headSpec w_RM_isFree ({ frames := 1, cells := 0, slots := 0, locals := 23 })).room s m ([.ref (ad 33), .int a1] : List Value).toArray below meth c H locs 0 0 Q (F0 m 113 ls []) := by
                intro n
                induction n with
                | zero => intro x5_4 x6_4 H locs ls hP hS hl hs; exact absurd rfl hs
                | succ n ih =>
                  intro x5_4 x6_4 H locs ls hP hS hl hs hexit
                  have hf := (f_RM_isFree_L113_s x4_3 n x5_4 x6_4 v4).symm
                  refine lv_iload hx hb d_RM_isFree_113 (lv_at hl 3 rfl) ?_
                  refine lv_aload_n hx hb d_RM_isFree_115 rfl (lv_at hl 0 rfl) ?_
                  refine va_get (D := D) (ci := 5) (v := .int (v4.1 33 1)) (C := R_RM) (T := T_RM) (N := 13) hx hb ht i_RM hown hK hP 33 Xa_33 rfl 1 (by decide) (ht _ mF_RM_30) (fun _ h9 => h9) rfl d_RM_isFree_116 ?_
                  refine lv_icmp_ge (tgt := 165) hx hb d_RM_isFree_119 (by decide) (fun c13 => ?_) (fun c13 => ?_)
                  · rw [if_pos c13] at hf
                    exact hexit _ hf.symm _ _ _ hP hS (lv_sub hl [0, 1, 2] rfl)
                  · rw [if_neg c13] at hf
                    refine lv_iload hx hb d_RM_isFree_122 (lv_at hl 2 rfl) ?_
                    refine lv_if_eq (tgt := 156) hx hb d_RM_isFree_124 (by decide) (fun c14 => ?_) (fun c14 => ?_)
                    · rw [if_pos c14] at hf
                      refine lv_iconst (v := 0) hx hb d_RM_isFree_156 (by decide) ?_
                      refine lv_istore (lv' := [(5, .int (0 : Int32)), (0, .ref (ad 33)), (4, .int x4_3), (6, .int x6_4)]) hx hb d_RM_isFree_157 hl (by decide) rfl (fun ls hl => ?_)
                      refine lv_iinc (v := x6_4 + 1) (lv' := [(6, .int (x6_4 + 1)), (5, .int (0 : Int32)), (0, .ref (ad 33)), (4, .int x4_3)]) hx hb d_RM_isFree_159 hl (k := 3) rfl rfl (by decide) rfl (fun ls hl => ?_)
                      refine lv_goto (tgt := 113) hx hb d_RM_isFree_162 (by decide) ?_
                      exact ih (0 : Int32) (x6_4 + 1) _ _ _ hP hS (lv_sub hl [2, 3, 1, 0] rfl) (fun hn => hs (hf.symm.trans hn)) (fun v ho => hexit v (hf.symm.trans ho))
                    · rw [if_neg c14] at hf
                      refine lv_aload_n hx hb d_RM_isFree_127 rfl (lv_at hl 0 rfl) ?_
                      refine va_get (D := D) (ci := 5) (v := .ref (ad 36)) (C := R_RM) (T := T_RM) (N := 13) hx hb ht i_RM hown hK hP 33 Xa_33 rfl 11 (by decide) (ht _ mF_RM_23) (fun _ h9 => h9) rfl d_RM_isFree_128 ?_
                      refine lv_aload_n hx hb d_RM_isFree_131 rfl (lv_at hl 0 rfl) ?_
                      refine va_get (D := D) (ci := 5) (v := .int (v4.1 33 1)) (C := R_RM) (T := T_RM) (N := 13) hx hb ht i_RM hown hK hP 33 Xa_33 rfl 1 (by decide) (ht _ mF_RM_30) (fun _ h9 => h9) rfl d_RM_isFree_132 ?_
                      refine lv_iload hx hb d_RM_isFree_135 (lv_at hl 1 rfl) ?_
                      refine lv_imul hx hb d_RM_isFree_137 ?_
                      refine lv_iload hx hb d_RM_isFree_138 (lv_at hl 3 rfl) ?_
                      refine lv_iadd hx hb d_RM_isFree_140 ?_
                      by_cases b15 : oob (((v4.1 33 1) * x4_3) + x6_4) 48
                      · rw [if_pos b15] at hf; exact absurd hf.symm hs
                      rw [if_neg b15] at hf
                      refine va_iald (f := v4.1 36) hx hb hK hP 36 0 Xa_36 rfl b15 d_RM_isFree_141 ?_
                      refine lv_aload_n hx hb d_RM_isFree_142 rfl (lv_at hl 0 rfl) ?_
                      refine va_get (D := D) (ci := 5) (v := .ref (ad 37)) (C := R_RM) (T := T_RM) (N := 13) hx hb ht i_RM hown hK hP 33 Xa_33 rfl 12 (by decide) (ht _ mF_RM_27) (fun _ h9 => h9) rfl d_RM_isFree_143 ?_
                      refine lv_iload hx hb d_RM_isFree_146 (lv_at hl 3 rfl) ?_
                      by_cases b16 : oob x6_4 6
                      · rw [if_pos b16] at hf; exact absurd hf.symm hs
                      rw [if_neg b16] at hf
                      refine va_iald (f := v4.1 37) hx hb hK hP 37 0 Xa_37 rfl b16 d_RM_isFree_148 ?_
                      refine lv_icmp_ne (tgt := 156) hx hb d_RM_isFree_149 (by decide) (fun c17 => ?_) (fun c17 => ?_)
                      · rw [if_neg c17] at hf
                        refine lv_iconst (v := 0) hx hb d_RM_isFree_156 (by decide) ?_
                        refine lv_istore (lv' := [(5, .int (0 : Int32)), (0, .ref (ad 33)), (4, .int x4_3), (6, .int x6_4)]) hx hb d_RM_isFree_157 hl (by decide) rfl (fun ls hl => ?_)
                        refine lv_iinc (v := x6_4 + 1) (lv' := [(6, .int (x6_4 + 1)), (5, .int (0 : Int32)), (0, .ref (ad 33)), (4, .int x4_3)]) hx hb d_RM_isFree_159 hl (k := 3) rfl rfl (by decide) rfl (fun ls hl => ?_)
                        refine lv_goto (tgt := 113) hx hb d_RM_isFree_162 (by decide) ?_
                        exact ih (0 : Int32) (x6_4 + 1) _ _ _ hP hS (lv_sub hl [2, 3, 1, 0] rfl) (fun hn => hs (hf.symm.trans hn)) (fun v ho => hexit v (hf.symm.trans ho))
                      · rw [if_pos c17] at hf
                        refine lv_iconst (v := 1) hx hb d_RM_isFree_152 (by decide) ?_
                        refine lv_goto (tgt := 157) hx hb d_RM_isFree_153 (by decide) ?_
                        refine lv_istore (lv' := [(5, .int (1 : Int32)), (0, .ref (ad 33)), (4, .int x4_3), (6, .int x6_4)]) hx hb d_RM_isFree_157 hl (by decide) rfl (fun ls hl => ?_)
                        refine lv_iinc (v := x6_4 + 1) (lv' := [(6, .int (x6_4 + 1)), (5, .int (1 : Int32)), (0, .ref (ad 33)), (4, .int x4_3)]) hx hb d_RM_isFree_159 hl (k := 3) rfl rfl (by decide) rfl (fun ls hl => ?_)
                        refine lv_goto (tgt := 113) hx hb d_RM_isFree_162 (by decide) ?_
                        exact ih (1 : Int32) (x6_4 + 1) _ _ _ hP hS (lv_sub hl [2, 3, 1, 0] rfl) (fun hn => hs (hf.symm.trans hn)) (fun v ho => hexit v (hf.symm.trans ho))
              refine lp113_4 FU (1 : Int32) (0 : Int32) _ _ _ hP hS (lv_sub hl [2, 4, 1, 0] rfl) (fun hn => ?_) (fun v18 hvv18 H locs ls hP hS hl => ?_)
              · rw [hn] at hf; exact hs hf.symm
              · rw [hvv18, Option.bind_some] at hf
                refine lv_iload hx hb d_RM_isFree_165 (lv_at hl 2 rfl) ?_
                refine lv_if_ne (tgt := 174) hx hb d_RM_isFree_167 (by decide) (fun c19 => ?_) (fun c19 => ?_)
                · rw [if_neg c19] at hf
                  refine lv_iconst (v := 0) hx hb d_RM_isFree_174 (by decide) ?_
                  refine lv_istore_n (lv' := [(3, .int (0 : Int32)), (0, .ref (ad 33)), (4, .int x4_3), (5, .int v18)]) hx hb d_RM_isFree_175 rfl hl (by decide) rfl (fun ls hl => ?_)
                  refine lv_iinc (v := x4_3 + 1) (lv' := [(4, .int (x4_3 + 1)), (3, .int (0 : Int32)), (0, .ref (ad 33)), (5, .int v18)]) hx hb d_RM_isFree_176 hl (k := 2) rfl rfl (by decide) rfl (fun ls hl => ?_)
                  refine lv_goto (tgt := 94) hx hb d_RM_isFree_179 (by decide) ?_
                  exact ih (0 : Int32) (x4_3 + 1) _ _ _ hP hS (lv_sub hl [2, 1, 0] rfl) (fun hn => hs (hf.symm.trans hn)) (fun v ho => hexit v (hf.symm.trans ho))
                · rw [if_pos c19] at hf
                  refine lv_iconst (v := 1) hx hb d_RM_isFree_170 (by decide) ?_
                  refine lv_goto (tgt := 175) hx hb d_RM_isFree_171 (by decide) ?_
                  refine lv_istore_n (lv' := [(3, .int (1 : Int32)), (0, .ref (ad 33)), (4, .int x4_3), (5, .int v18)]) hx hb d_RM_isFree_175 rfl hl (by decide) rfl (fun ls hl => ?_)
                  refine lv_iinc (v := x4_3 + 1) (lv' := [(4, .int (x4_3 + 1)), (3, .int (1 : Int32)), (0, .ref (ad 33)), (5, .int v18)]) hx hb d_RM_isFree_176 hl (k := 2) rfl rfl (by decide) rfl (fun ls hl => ?_)
                  refine lv_goto (tgt := 94) hx hb d_RM_isFree_179 (by decide) ?_
                  exact ih (1 : Int32) (x4_3 + 1) _ _ _ hP hS (lv_sub hl [2, 1, 0] rfl) (fun hn => hs (hf.symm.trans hn)) (fun v ho => hexit v (hf.symm.trans ho))
      refine lp94_3 FU v10 (0 : Int32) _ _ _ hP hS (lv_sub hl [1, 2, 0] rfl) (fun hn => ?_) (fun v20 hvv20 H locs ls hP hS hl => ?_)
      · rw [hn] at hf; exact hs hf.symm
      · rw [hvv20, Option.bind_some] at hf
        refine lv_iload_n hx hb d_RM_isFree_182 rfl (lv_at hl 1 rfl) ?_
        by_cases hz : v20 = 0 ∨ v20 = 1
        case neg => rw [if_neg hz] at hf; exact absurd hf.symm hs
        rw [if_pos hz] at hf
        rw [← hQ]
        exact W.zret (v := v20) hx hb hr (zb_n hz) (fun t ht hW => ⟨⟨v20, v4, rfl, ⟨hf.symm, hz⟩, by rw [ht]; exact hP, va_K.moved hW.alike hK⟩, hS.F ht⟩) hS.2.2 d_RM_isFree_183
set_option maxHeartbeats 4000000 in
set_option maxRecDepth 100000 in
theorem c_RM_doorsOfRow (l : Launch) (D : va_G) (cA : Nat → ClassId) (ad : Nat → Nat) (hI : InjA ad) (sz : Nat) (S : SS) (hs : f_RM_doorsOfRow S ≠ none) : Met l y_RM_doorsOfRow w_RM_doorsOfRow ({ frames := 1, cells := 0, slots := 0, locals := 26 }) (va_Pc [.ref (ad 33)] (fun U => U.heap.size = sz ∧ va_P D vwCl (X cA ad S) U.heap ∧ va_K D vwCl (tysX cA) U)) (va_Qi (fun (r : Int32) (_ : Unit) => f_RM_doorsOfRow S = some r) (fun (_ : Unit) t => va_P D vwCl (X cA ad S) t.heap ∧ va_K D vwCl (tysX cA) t) (AS ad sz)) 0 0 (AS ad sz) := by
  refine Met.ofW (cc := b_RM_doorsOfRow) (maxL := 5) (ret := (some .int)) (by decide) rfl ?_
  intro p e s m args below meth c s₁ B hml hv
  obtain ⟨rfl, hsz, hP, hK⟩ := hv
  have hx := B.exec
  have hb := B.bytes
  have hr := B.returns
  have hts := atoms_spec (ws := w_RM_doorsOfRow) B.pre
  have ht := fun w h => hts w (List.mem_cons_of_mem _ h)
  have hown : s.vm.findClass R_RM = some m.cls := findClass_of_methodNamed B.named
  have hlocks := B.notSynchronized
  subst hsz
  have hAd : ∀ q, q < NP → AS ad s.heap.size (ad q) := fun q h => Or.inl ⟨q, h, rfl⟩
  have hA : ∀ q : Nat, s.heap.size ≤ q → AS ad s.heap.size q := fun q h => Or.inr h
  have hAS : ∀ z : Nat, s.heap.size ≤ z → ∀ q : Nat, AS ad z q → AS ad s.heap.size q := fun z h q hq => hq.elim Or.inl (fun g => Or.inr (Nat.le_trans h g))
  generalize hAe : AS ad s.heap.size = A at hAd hA hAS ⊢
  have hS : va_S A s.heap s.heap [] := va_S.rf
  have hl := lv_entry ([.ref (ad 33)]) (n := 5) (Nat.le_of_ble_eq_true rfl)
  rw [lg_entry_eq]
  generalize (lg_sl ([.ref (ad 33)]) ++ List.replicate (5 - (lg_sl ([.ref (ad 33)])).length) Slot.unset).toArray = ls at hl ⊢
  have hl : lv_has ls 5 [(0, .ref (ad 33))] := hl
  have hf := (f_RM_doorsOfRow_s S).symm
  generalize hQ : MQ below _ _ s _ _ _ = Q
  refine lv_iconst (v := 0) hx hb d_RM_doorsOfRow_0 (by decide) ?_
  refine lv_istore_n (lv' := [(1, .int (0 : Int32)), (0, .ref (ad 33))]) hx hb d_RM_doorsOfRow_1 rfl hl (by decide) rfl (fun ls hl => ?_)
  refine lv_iconst (v := 0) hx hb d_RM_doorsOfRow_2 (by decide) ?_
  refine lv_istore_n (lv' := [(2, .int (0 : Int32)), (1, .int (0 : Int32)), (0, .ref (ad 33))]) hx hb d_RM_doorsOfRow_3 rfl hl (by decide) rfl (fun ls hl => ?_)
  have lp4_1 : ∀ (n : Nat) (x1_1 : Int32) (x2_1 : Int32) (H : Heap) (locs : List Loc) (ls : Array Slot), va_P D vwCl (X cA ad S) H → va_S A s.heap H locs → lv_has ls 5 [(0, .ref (ad 33)), (1, .int x1_1), (2, .int x2_1)] → f_RM_doorsOfRow_L4 n x1_1 x2_1 S ≠ none →
      (∀ v : Int32, f_RM_doorsOfRow_L4 n x1_1 x2_1 S = some v → ∀ (H : Heap) (locs : List Loc) (ls : Array Slot), va_P D vwCl (X cA ad S) H → va_S A s.heap H locs → lv_has ls 5 [(0, .ref (ad 33)), (1, .int v)] → W p l e (headSpec w_RM_doorsOfRow ({ frames := 1, cells := 0, slots := 0, locals := 26 })).room s m ([.ref (ad 33)] : List Value).toArray below meth c H locs 0 0 Q (F0 m 75 ls [])) →
      W p l e (headSpec w_RM_doorsOfRow ({ frames := 1, cells := 0, slots := 0, locals := 26 })).room s m ([.ref (ad 33)] : List Value).toArray below meth c H locs 0 0 Q (F0 m 4 ls []) := by
    intro n
    induction n with
    | zero => intro x1_1 x2_1 H locs ls hP hS hl hs; exact absurd rfl hs
    | succ n ih =>
      intro x1_1 x2_1 H locs ls hP hS hl hs hexit
      have hf := (f_RM_doorsOfRow_L4_s n x1_1 x2_1 S).symm
      refine lv_iload_n hx hb d_RM_doorsOfRow_4 rfl (lv_at hl 2 rfl) ?_
      refine lv_aload_n hx hb d_RM_doorsOfRow_5 rfl (lv_at hl 0 rfl) ?_
      refine va_get (D := D) (ci := 5) (v := .int (S.1 33 4)) (C := R_RM) (T := T_RM) (N := 13) hx hb ht i_RM hown hK hP 33 Xa_33 rfl 4 (by decide) (ht _ mF_RM_42) (fun _ h9 => h9) rfl d_RM_doorsOfRow_6 ?_
      refine lv_icmp_ge (tgt := 75) hx hb d_RM_doorsOfRow_9 (by decide) (fun c1 => ?_) (fun c1 => ?_)
      · rw [if_pos c1] at hf
        exact hexit _ hf.symm _ _ _ hP hS (lv_sub hl [0, 1] rfl)
      · rw [if_neg c1] at hf
        refine lv_iconst (v := 1) hx hb d_RM_doorsOfRow_12 (by decide) ?_
        refine lv_istore_n (lv' := [(3, .int (1 : Int32)), (0, .ref (ad 33)), (1, .int x1_1), (2, .int x2_1)]) hx hb d_RM_doorsOfRow_13 rfl hl (by decide) rfl (fun ls hl => ?_)
        refine lv_iconst (v := 0) hx hb d_RM_doorsOfRow_14 (by decide) ?_
        refine lv_istore (lv' := [(4, .int (0 : Int32)), (3, .int (1 : Int32)), (0, .ref (ad 33)), (1, .int x1_1), (2, .int x2_1)]) hx hb d_RM_doorsOfRow_15 hl (by decide) rfl (fun ls hl => ?_)
        have lp17_2 : ∀ (n : Nat) (x3_2 : Int32) (x4_2 : Int32) (H : Heap) (locs : List Loc) (ls : Array Slot), va_P D vwCl (X cA ad S) H → va_S A s.heap H locs → lv_has ls 5 [(0, .ref (ad 33)), (1, .int x1_1), (2, .int x2_1), (3, .int x3_2), (4, .int x4_2)] → f_RM_doorsOfRow_L17 x1_1 x2_1 n x3_2 x4_2 S ≠ none →
            (∀ v : Int32, f_RM_doorsOfRow_L17 x1_1 x2_1 n x3_2 x4_2 S = some v → ∀ (H : Heap) (locs : List Loc) (ls : Array Slot), va_P D vwCl (X cA ad S) H → va_S A s.heap H locs → lv_has ls 5 [(0, .ref (ad 33)), (1, .int x1_1), (2, .int x2_1), (3, .int v)] → W p l e (headSpec w_RM_doorsOfRow ({ frames := 1, cells := 0, slots := 0, locals := 26 })).room s m ([.ref (ad 33)] : List Value).toArray below meth c H locs 0 0 Q (F0 m 55 ls [])) →
            W p l e (headSpec w_RM_doorsOfRow ({ frames := 1, cells := 0, slots := 0, locals := 26 })).room s m ([.ref (ad 33)] : List Value).toArray below meth c H locs 0 0 Q (F0 m 17 ls []) := by
          intro n
          induction n with
          | zero => intro x3_2 x4_2 H locs ls hP hS hl hs; exact absurd rfl hs
          | succ n ih =>
            intro x3_2 x4_2 H locs ls hP hS hl hs hexit
            have hf := (f_RM_doorsOfRow_L17_s x1_1 x2_1 n x3_2 x4_2 S).symm
            refine lv_iload hx hb d_RM_doorsOfRow_17 (lv_at hl 4 rfl) ?_
            refine lv_aload_n hx hb d_RM_doorsOfRow_19 rfl (lv_at hl 0 rfl) ?_
            refine va_get (D := D) (ci := 5) (v := .int (S.1 33 1)) (C := R_RM) (T := T_RM) (N := 13) hx hb ht i_RM hown hK hP 33 Xa_33 rfl 1 (by decide) (ht _ mF_RM_30) (fun _ h9 => h9) rfl d_RM_doorsOfRow_20 ?_
            refine lv_icmp_ge (tgt := 55) hx hb d_RM_doorsOfRow_23 (by decide) (fun c2 => ?_) (fun c2 => ?_)
            · rw [if_pos c2] at hf
              exact hexit _ hf.symm _ _ _ hP hS (lv_sub hl [0, 1, 2, 3] rfl)
            · rw [if_neg c2] at hf
              refine lv_iload_n hx hb d_RM_doorsOfRow_26 rfl (lv_at hl 3 rfl) ?_
              refine lv_if_eq (tgt := 55) hx hb d_RM_doorsOfRow_27 (by decide) (fun c3 => ?_) (fun c3 => ?_)
              · rw [if_pos c3] at hf
                exact hexit _ hf.symm _ _ _ hP hS (lv_sub hl [0, 1, 2, 3] rfl)
              · rw [if_neg c3] at hf
                refine lv_aload_n hx hb d_RM_doorsOfRow_30 rfl (lv_at hl 0 rfl) ?_
                refine lv_aload_n hx hb d_RM_doorsOfRow_31 rfl (lv_at hl 0 rfl) ?_
                refine va_get (D := D) (ci := 5) (v := .int (S.1 33 3)) (C := R_RM) (T := T_RM) (N := 13) hx hb ht i_RM hown hK hP 33 Xa_33 rfl 3 (by decide) (ht _ mF_RM_39) (fun _ h9 => h9) rfl d_RM_doorsOfRow_32 ?_
                refine lv_iload_n hx hb d_RM_doorsOfRow_35 rfl (lv_at hl 2 rfl) ?_
                refine lv_iload hx hb d_RM_doorsOfRow_36 (lv_at hl 4 rfl) ?_
                refine lv_aload_n hx hb d_RM_doorsOfRow_38 rfl (lv_at hl 0 rfl) ?_
                refine va_get (D := D) (ci := 5) (v := .ref (ad 37)) (C := R_RM) (T := T_RM) (N := 13) hx hb ht i_RM hown hK hP 33 Xa_33 rfl 12 (by decide) (ht _ mF_RM_27) (fun _ h9 => h9) rfl d_RM_doorsOfRow_39 ?_
                refine lv_iload hx hb d_RM_doorsOfRow_42 (lv_at hl 4 rfl) ?_
                by_cases b4 : oob x4_2 6
                · rw [if_pos b4] at hf; exact absurd hf.symm hs
                rw [if_neg b4] at hf
                refine va_iald (f := S.1 37) hx hb hK hP 37 0 Xa_37 rfl b4 d_RM_doorsOfRow_44 ?_
                refine va_calli (va_runV (As := [.int (S.1 33 3), .int x2_1, .int x4_2, .int (S.1 37 x4_2.toNatClampNeg)]) (rest := []) ⟨hx, hb, hml, hown, ht⟩ (c_RM_isHeld l D cA ad hI H.size (S.1 33 3) x2_1 x4_2 (S.1 37 x4_2.toNatClampNeg) S (fun hn => hs (by rw [hn] at hf; exact hf.symm))) (cwV 4 ht (good_G (gV mM_RM_63 mI_RM_isHeld mV_RM_isHeld mN_RM mk_RM_isHeld)) rfl rfl rfl (by decide +kernel) ⟨Nat.le_of_ble_eq_true rfl, Nat.le_of_ble_eq_true rfl⟩) ⟨fun a U g mk q => ⟨q.1, q.2.1, q.2.2.1, va_K.moved (u := U) (U := U.calling g mk a) (Vm.Alike.refl U.vm) q.2.2.2⟩, va_recv hK hP (ci := 5) (q0 := 33) rfl Xa_33, fun U hU hW => ⟨rfl, by rw [hU], by rw [hU]; exact hP, va_K.moved hW.alike hK⟩⟩ rfl rfl hl.1 rfl (lv_room (Nat.le_of_ble_eq_true rfl)) d_RM_doorsOfRow_45 ⟨Nat.le_of_ble_eq_true rfl, Nat.le_of_ble_eq_true rfl⟩) hS (fun q _ h => hAS _ hS.1 q h) (fun q h => hAS _ hS.1 q h) (fun r1 _ t H locs ht9 hvm hw hB hz1 hk1 hS => ?_)
                obtain ⟨hP, hK9⟩ := hB
                rw [ht9] at hP
                obtain ⟨hw, hz1⟩ := hw
                rw [hw, Option.bind_some] at hf
                refine lv_istore_n (lv' := [(3, .int r1), (0, .ref (ad 33)), (1, .int x1_1), (2, .int x2_1), (4, .int x4_2)]) hx hb d_RM_doorsOfRow_48 rfl hl (by decide) rfl (fun ls hl => ?_)
                refine lv_iinc (v := x4_2 + 1) (lv' := [(4, .int (x4_2 + 1)), (3, .int r1), (0, .ref (ad 33)), (1, .int x1_1), (2, .int x2_1)]) hx hb d_RM_doorsOfRow_49 hl (k := 4) rfl rfl (by decide) rfl (fun ls hl => ?_)
                refine lv_goto (tgt := 17) hx hb d_RM_doorsOfRow_52 (by decide) ?_
                exact ih r1 (x4_2 + 1) _ _ _ hP hS (lv_sub hl [2, 3, 4, 1, 0] rfl) (fun hn => hs (hf.symm.trans hn)) (fun v ho => hexit v (hf.symm.trans ho))
        refine lp17_2 FU (1 : Int32) (0 : Int32) _ _ _ hP hS (lv_sub hl [2, 3, 4, 1, 0] rfl) (fun hn => ?_) (fun v5 hvv5 H locs ls hP hS hl => ?_)
        · rw [hn] at hf; exact hs hf.symm
        · rw [hvv5, Option.bind_some] at hf
          refine lv_iload_n hx hb d_RM_doorsOfRow_55 rfl (lv_at hl 1 rfl) ?_
          refine lv_iload_n hx hb d_RM_doorsOfRow_56 rfl (lv_at hl 3 rfl) ?_
          refine lv_if_eq (tgt := 66) hx hb d_RM_doorsOfRow_57 (by decide) (fun c6 => ?_) (fun c6 => ?_)
          · rw [if_pos c6] at hf
            refine lv_iconst (v := 0) hx hb d_RM_doorsOfRow_66 (by decide) ?_
            refine lv_ior hx hb d_RM_doorsOfRow_67 ?_
            refine lv_istore_n (lv' := [(1, .int (x1_1 ||| (0 : Int32))), (0, .ref (ad 33)), (2, .int x2_1), (3, .int v5)]) hx hb d_RM_doorsOfRow_68 rfl hl (by decide) rfl (fun ls hl => ?_)
            refine lv_iinc (v := x2_1 + 1) (lv' := [(2, .int (x2_1 + 1)), (1, .int (x1_1 ||| (0 : Int32))), (0, .ref (ad 33)), (3, .int v5)]) hx hb d_RM_doorsOfRow_69 hl (k := 2) rfl rfl (by decide) rfl (fun ls hl => ?_)
            refine lv_goto (tgt := 4) hx hb d_RM_doorsOfRow_72 (by decide) ?_
            exact ih (x1_1 ||| (0 : Int32)) (x2_1 + 1) _ _ _ hP hS (lv_sub hl [2, 1, 0] rfl) (fun hn => hs (hf.symm.trans hn)) (fun v ho => hexit v (hf.symm.trans ho))
          · rw [if_neg c6] at hf
            refine lv_iconst (v := 1) hx hb d_RM_doorsOfRow_60 (by decide) ?_
            refine lv_iload_n hx hb d_RM_doorsOfRow_61 rfl (lv_at hl 2 rfl) ?_
            refine lv_ishl hx hb d_RM_doorsOfRow_62 ?_
            refine lv_goto (tgt := 67) hx hb d_RM_doorsOfRow_63 (by decide) ?_
            refine lv_ior hx hb d_RM_doorsOfRow_67 ?_
            refine lv_istore_n (lv' := [(1, .int (x1_1 ||| ((1 : Int32) <<< (x2_1 &&& 31)))), (0, .ref (ad 33)), (2, .int x2_1), (3, .int v5)]) hx hb d_RM_doorsOfRow_68 rfl hl (by decide) rfl (fun ls hl => ?_)
            refine lv_iinc (v := x2_1 + 1) (lv' := [(2, .int (x2_1 + 1)), (1, .int (x1_1 ||| ((1 : Int32) <<< (x2_1 &&& 31)))), (0, .ref (ad 33)), (3, .int v5)]) hx hb d_RM_doorsOfRow_69 hl (k := 2) rfl rfl (by decide) rfl (fun ls hl => ?_)
            refine lv_goto (tgt := 4) hx hb d_RM_doorsOfRow_72 (by decide) ?_
            exact ih (x1_1 ||| ((1 : Int32) <<< (x2_1 &&& 31))) (x2_1 + 1) _ _ _ hP hS (lv_sub hl [2, 1, 0] rfl) (fun hn => hs (hf.symm.trans hn)) (fun v ho => hexit v (hf.symm.trans ho))
  refine lp4_1 FU (0 : Int32) (0 : Int32) _ _ _ hP hS (lv_sub hl [2, 1, 0] rfl) (fun hn => ?_) (fun v7 hvv7 H locs ls hP hS hl => ?_)
  · rw [hn] at hf; exact hs hf.symm
  · rw [hvv7, Option.bind_some] at hf
    refine lv_iload_n hx hb d_RM_doorsOfRow_75 rfl (lv_at hl 1 rfl) ?_
    rw [← hQ]
    exact W.iret (v := v7) hx hb hr (fun t ht hW => ⟨⟨v7, (), rfl, hf.symm, by rw [ht]; exact hP, va_K.moved hW.alike hK⟩, hS.F ht⟩) hS.2.2 d_RM_doorsOfRow_76
set_option maxHeartbeats 4000000 in
set_option maxRecDepth 100000 in
theorem c_RM_left (l : Launch) (D : va_G) (cA : Nat → ClassId) (ad : Nat → Nat) (hI : InjA ad) (sz : Nat) (S : SS) (hs : f_RM_left S ≠ none) : Met l y_RM_left w_RM_left ({ frames := 2, cells := 0, slots := 0, locals := 50 }) (va_Pc [.ref (ad 33)] (fun U => U.heap.size = sz ∧ va_P D vwCl (X cA ad S) U.heap ∧ va_K D vwCl (tysX cA) U)) (va_Qi (fun (r : Int32) (u : SS) => f_RM_left S = some (r, u)) (fun (u : SS) t => va_P D vwCl (X cA ad u) t.heap ∧ va_K D vwCl (tysX cA) t) (AS ad sz)) 0 0 (AS ad sz) := by
  refine Met.ofW (cc := b_RM_left) (maxL := 3) (ret := (some .int)) (by decide) rfl ?_
  intro p e s m args below meth c s₁ B hml hv
  obtain ⟨rfl, hsz, hP, hK⟩ := hv
  have hx := B.exec
  have hb := B.bytes
  have hr := B.returns
  have hts := atoms_spec (ws := w_RM_left) B.pre
  have ht := fun w h => hts w (List.mem_cons_of_mem _ h)
  have hown : s.vm.findClass R_RM = some m.cls := findClass_of_methodNamed B.named
  have hlocks := B.notSynchronized
  subst hsz
  have hAd : ∀ q, q < NP → AS ad s.heap.size (ad q) := fun q h => Or.inl ⟨q, h, rfl⟩
  have hA : ∀ q : Nat, s.heap.size ≤ q → AS ad s.heap.size q := fun q h => Or.inr h
  have hAS : ∀ z : Nat, s.heap.size ≤ z → ∀ q : Nat, AS ad z q → AS ad s.heap.size q := fun z h q hq => hq.elim Or.inl (fun g => Or.inr (Nat.le_trans h g))
  generalize hAe : AS ad s.heap.size = A at hAd hA hAS ⊢
  have hS : va_S A s.heap s.heap [] := va_S.rf
  have hl := lv_entry ([.ref (ad 33)]) (n := 3) (Nat.le_of_ble_eq_true rfl)
  rw [lg_entry_eq]
  generalize (lg_sl ([.ref (ad 33)]) ++ List.replicate (3 - (lg_sl ([.ref (ad 33)])).length) Slot.unset).toArray = ls at hl ⊢
  have hl : lv_has ls 3 [(0, .ref (ad 33))] := hl
  have hf := (f_RM_left_s S).symm
  generalize hQ : MQ below _ _ s _ _ _ = Q
  refine lv_aload_n hx hb d_RM_left_0 rfl (lv_at hl 0 rfl) ?_
  refine lv_aload_n hx hb d_RM_left_1 rfl (lv_at hl 0 rfl) ?_
  refine va_get (D := D) (ci := 5) (v := .int (S.1 33 9)) (C := R_RM) (T := T_RM) (N := 13) hx hb ht i_RM hown hK hP 33 Xa_33 rfl 9 (by decide) (ht _ mF_RM_45) (fun _ h9 => h9) rfl d_RM_left_2 ?_
  refine lv_if_eq (tgt := 12) hx hb d_RM_left_5 (by decide) (fun c1 => ?_) (fun c1 => ?_)
  · rw [if_pos c1] at hf
    refine lv_iconst (v := 1) hx hb d_RM_left_12 (by decide) ?_
    refine va_put (D := D) (ci := 5) (v := .int (1 : Int32)) (ty := .int) (C := R_RM) (T := T_RM) (N := 13) hx hb ht i_RM t_RM t_RM_ok n_RM hown hK hP (X_D hI hAd) hS 33 Xa_33 rfl 0 (by decide) (ht _ mF_RM_36) (fun _ h9 => h9) rfl (by decide +kernel) rfl rfl (Nat.le_of_ble_eq_true rfl) d_RM_left_13 (fun H locs hP _ hS => ?_)
    replace hP := X_putI (by decide) hP rfl
    refine lv_iconst (v := 0) hx hb d_RM_left_16 (by decide) ?_
    refine lv_istore_n (lv' := [(1, .int (0 : Int32)), (0, .ref (ad 33))]) hx hb d_RM_left_17 rfl hl (by decide) rfl (fun ls hl => ?_)
    refine lv_iconst (v := 0) hx hb d_RM_left_18 (by decide) ?_
    refine lv_istore_n (lv' := [(2, .int (0 : Int32)), (1, .int (0 : Int32)), (0, .ref (ad 33))]) hx hb d_RM_left_19 rfl hl (by decide) rfl (fun ls hl => ?_)
    have lp20_1 : ∀ (n : Nat) (x1_1 : Int32) (x2_1 : Int32) (Sx : SS) (H : Heap) (locs : List Loc) (ls : Array Slot), va_P D vwCl (X cA ad Sx) H → va_S A s.heap H locs → lv_has ls 3 [(0, .ref (ad 33)), (1, .int x1_1), (2, .int x2_1)] → f_RM_left_L20 n x1_1 x2_1 Sx ≠ none →
        (∀ v : Int32 × SS, f_RM_left_L20 n x1_1 x2_1 Sx = some v → ∀ (H : Heap) (locs : List Loc) (ls : Array Slot), va_P D vwCl (X cA ad v.2) H → va_S A s.heap H locs → lv_has ls 3 [(0, .ref (ad 33)), (1, .int v.1)] → W p l e (headSpec w_RM_left ({ frames := 2, cells := 0, slots := 0, locals := 50 })).room s m ([.ref (ad 33)] : List Value).toArray below meth c H locs 0 0 Q (F0 m 64 ls [])) →
        W p l e (headSpec w_RM_left ({ frames := 2, cells := 0, slots := 0, locals := 50 })).room s m ([.ref (ad 33)] : List Value).toArray below meth c H locs 0 0 Q (F0 m 20 ls []) := by
      intro n
      induction n with
      | zero => intro x1_1 x2_1 Sx H locs ls hP hS hl hs; exact absurd rfl hs
      | succ n ih =>
        intro x1_1 x2_1 Sx H locs ls hP hS hl hs hexit
        have hf := (f_RM_left_L20_s n x1_1 x2_1 Sx).symm
        refine lv_iload_n hx hb d_RM_left_20 rfl (lv_at hl 2 rfl) ?_
        refine lv_aload_n hx hb d_RM_left_21 rfl (lv_at hl 0 rfl) ?_
        refine va_calli (va_runV (As := []) (rest := [.int x2_1]) ⟨hx, hb, hml, hown, ht⟩ (c_RM_rows l D cA ad hI H.size Sx (fun hn => hs (by rw [hn] at hf; exact hf.symm))) (cwV 0 ht (good_G (gV mM_RM_87 mI_RM_rows mV_RM_rows mN_RM mk_RM_rows)) rfl rfl rfl (by decide +kernel) ⟨Nat.le_of_ble_eq_true rfl, Nat.le_of_ble_eq_true rfl⟩) ⟨fun a U g mk q => ⟨q.1, q.2.1, q.2.2.1, va_K.moved (u := U) (U := U.calling g mk a) (Vm.Alike.refl U.vm) q.2.2.2⟩, va_recv hK hP (ci := 5) (q0 := 33) rfl Xa_33, fun U hU hW => ⟨rfl, by rw [hU], by rw [hU]; exact hP, va_K.moved hW.alike hK⟩⟩ rfl rfl hl.1 rfl (lv_room (Nat.le_of_ble_eq_true rfl)) d_RM_left_22 ⟨Nat.le_of_ble_eq_true rfl, Nat.le_of_ble_eq_true rfl⟩) hS (fun q _ h => hAS _ hS.1 q h) (fun q h => hAS _ hS.1 q h) (fun r1 _ t H locs ht9 hvm hw hB hz1 hk1 hS => ?_)
        obtain ⟨hP, hK9⟩ := hB
        rw [ht9] at hP
        rw [hw, Option.bind_some] at hf
        refine lv_icmp_ge (tgt := 64) hx hb d_RM_left_25 (by decide) (fun c2 => ?_) (fun c2 => ?_)
        · rw [if_pos c2] at hf
          exact hexit _ hf.symm _ _ _ hP hS (lv_sub hl [0, 1] rfl)
        · rw [if_neg c2] at hf
          refine lv_aload_n hx hb d_RM_left_28 rfl (lv_at hl 0 rfl) ?_
          refine va_get (D := D) (ci := 5) (v := .int (Sx.1 33 9)) (C := R_RM) (T := T_RM) (N := 13) hx hb ht i_RM hown hK hP 33 Xa_33 rfl 9 (by decide) (ht _ mF_RM_45) (fun _ h9 => h9) rfl d_RM_left_29 ?_
          refine lv_if_eq (tgt := 64) hx hb d_RM_left_32 (by decide) (fun c3 => ?_) (fun c3 => ?_)
          · rw [if_pos c3] at hf
            exact hexit _ hf.symm _ _ _ hP hS (lv_sub hl [0, 1] rfl)
          · rw [if_neg c3] at hf
            refine lv_iload_n hx hb d_RM_left_35 rfl (lv_at hl 1 rfl) ?_
            refine lv_aload_n hx hb d_RM_left_36 rfl (lv_at hl 0 rfl) ?_
            refine lv_iload_n hx hb d_RM_left_37 rfl (lv_at hl 2 rfl) ?_
            refine va_calli (va_runV (As := [.int x2_1]) (rest := [.int x1_1]) ⟨hx, hb, hml, hown, ht⟩ (c_RM_isFree l D cA ad hI H.size x2_1 Sx (fun hn => hs (by rw [hn] at hf; exact hf.symm))) (cwV 1 ht (good_G (gV mM_RM_91 mI_RM_isFree mV_RM_isFree mN_RM mk_RM_isFree)) rfl rfl rfl (by decide +kernel) ⟨Nat.le_of_ble_eq_true rfl, Nat.le_of_ble_eq_true rfl⟩) ⟨fun a U g mk q => ⟨q.1, q.2.1, q.2.2.1, va_K.moved (u := U) (U := U.calling g mk a) (Vm.Alike.refl U.vm) q.2.2.2⟩, va_recv hK hP (ci := 5) (q0 := 33) rfl Xa_33, fun U hU hW => ⟨rfl, by rw [hU], by rw [hU]; exact hP, va_K.moved hW.alike hK⟩⟩ rfl rfl hl.1 rfl (lv_room (Nat.le_of_ble_eq_true rfl)) d_RM_left_38 ⟨Nat.le_of_ble_eq_true rfl, Nat.le_of_ble_eq_true rfl⟩) hS (fun q _ h => hAS _ hS.1 q h) (fun q h => hAS _ hS.1 q h) (fun r2 u2 t H locs ht9 hvm hw hB hz1 hk1 hS => ?_)
            obtain ⟨hP, hK9⟩ := hB
            rw [ht9] at hP
            obtain ⟨hw, hz2⟩ := hw
            rw [hw, Option.bind_some] at hf
            dsimp only at hf
            refine lv_if_eq (tgt := 55) hx hb d_RM_left_41 (by decide) (fun c4 => ?_) (fun c4 => ?_)
            · rw [if_pos c4] at hf
              refine lv_iconst (v := 0) hx hb d_RM_left_55 (by decide) ?_
              refine lv_iadd hx hb d_RM_left_56 ?_
              refine lv_istore_n (lv' := [(1, .int (x1_1 + (0 : Int32))), (0, .ref (ad 33)), (2, .int x2_1)]) hx hb d_RM_left_57 rfl hl (by decide) rfl (fun ls hl => ?_)
              refine lv_iinc (v := x2_1 + 1) (lv' := [(2, .int (x2_1 + 1)), (1, .int (x1_1 + (0 : Int32))), (0, .ref (ad 33))]) hx hb d_RM_left_58 hl (k := 2) rfl rfl (by decide) rfl (fun ls hl => ?_)
              refine lv_goto (tgt := 20) hx hb d_RM_left_61 (by decide) ?_
              exact ih (x1_1 + (0 : Int32)) (x2_1 + 1) u2 _ _ _ hP hS (lv_sub hl [2, 1, 0] rfl) (fun hn => hs (hf.symm.trans hn)) (fun v ho => hexit v (hf.symm.trans ho))
            · rw [if_neg c4] at hf
              refine lv_aload_n hx hb d_RM_left_44 rfl (lv_at hl 0 rfl) ?_
              refine va_calli (va_runV (As := []) (rest := [.int x1_1]) ⟨hx, hb, hml, hown, ht⟩ (c_RM_doorsOfRow l D cA ad hI H.size u2 (fun hn => hs (by rw [hn] at hf; exact hf.symm))) (cwV 0 ht (good_G (gV mM_RM_94 mI_RM_doorsOfRow mV_RM_doorsOfRow mN_RM mk_RM_doorsOfRow)) rfl rfl rfl (by decide +kernel) ⟨Nat.le_of_ble_eq_true rfl, Nat.le_of_ble_eq_true rfl⟩) ⟨fun a U g mk q => ⟨q.1, q.2.1, q.2.2.1, va_K.moved (u := U) (U := U.calling g mk a) (Vm.Alike.refl U.vm) q.2.2.2⟩, va_recv hK hP (ci := 5) (q0 := 33) rfl Xa_33, fun U hU hW => ⟨rfl, by rw [hU], by rw [hU]; exact hP, va_K.moved hW.alike hK⟩⟩ rfl rfl hl.1 rfl (lv_room (Nat.le_of_ble_eq_true rfl)) d_RM_left_45 ⟨Nat.le_of_ble_eq_true rfl, Nat.le_of_ble_eq_true rfl⟩) hS (fun q _ h => hAS _ hS.1 q h) (fun q h => hAS _ hS.1 q h) (fun r3 _ t H locs ht9 hvm hw hB hz1 hk1 hS => ?_)
              obtain ⟨hP, hK9⟩ := hB
              rw [ht9] at hP
              rw [hw, Option.bind_some] at hf
              refine lv_if_ne (tgt := 55) hx hb d_RM_left_48 (by decide) (fun c5 => ?_) (fun c5 => ?_)
              · rw [if_neg c5] at hf
                refine lv_iconst (v := 0) hx hb d_RM_left_55 (by decide) ?_
                refine lv_iadd hx hb d_RM_left_56 ?_
                refine lv_istore_n (lv' := [(1, .int (x1_1 + (0 : Int32))), (0, .ref (ad 33)), (2, .int x2_1)]) hx hb d_RM_left_57 rfl hl (by decide) rfl (fun ls hl => ?_)
                refine lv_iinc (v := x2_1 + 1) (lv' := [(2, .int (x2_1 + 1)), (1, .int (x1_1 + (0 : Int32))), (0, .ref (ad 33))]) hx hb d_RM_left_58 hl (k := 2) rfl rfl (by decide) rfl (fun ls hl => ?_)
                refine lv_goto (tgt := 20) hx hb d_RM_left_61 (by decide) ?_
                exact ih (x1_1 + (0 : Int32)) (x2_1 + 1) u2 _ _ _ hP hS (lv_sub hl [2, 1, 0] rfl) (fun hn => hs (hf.symm.trans hn)) (fun v ho => hexit v (hf.symm.trans ho))
              · rw [if_pos c5] at hf
                refine lv_iconst (v := 1) hx hb d_RM_left_51 (by decide) ?_
                refine lv_goto (tgt := 56) hx hb d_RM_left_52 (by decide) ?_
                refine lv_iadd hx hb d_RM_left_56 ?_
                refine lv_istore_n (lv' := [(1, .int (x1_1 + (1 : Int32))), (0, .ref (ad 33)), (2, .int x2_1)]) hx hb d_RM_left_57 rfl hl (by decide) rfl (fun ls hl => ?_)
                refine lv_iinc (v := x2_1 + 1) (lv' := [(2, .int (x2_1 + 1)), (1, .int (x1_1 + (1 : Int32))), (0, .ref (ad 33))]) hx hb d_RM_left_58 hl (k := 2) rfl rfl (by decide) rfl (fun ls hl => ?_)
                refine lv_goto (tgt := 20) hx hb d_RM_left_61 (by decide) ?_
                exact ih (x1_1 + (1 : Int32)) (x2_1 + 1) u2 _ _ _ hP hS (lv_sub hl [2, 1, 0] rfl) (fun hn => hs (hf.symm.trans hn)) (fun v ho => hexit v (hf.symm.trans ho))
    refine lp20_1 FU (0 : Int32) (0 : Int32) (wI S 33 0 (1 : Int32)) _ _ _ hP hS (lv_sub hl [2, 1, 0] rfl) (fun hn => ?_) (fun v6 hvv6 H locs ls hP hS hl => ?_)
    · rw [hn] at hf; exact hs hf.symm
    · rw [hvv6, Option.bind_some] at hf
      refine lv_iload_n hx hb d_RM_left_64 rfl (lv_at hl 1 rfl) ?_
      rw [← hQ]
      exact W.iret (v := v6.1) hx hb hr (fun t ht hW => ⟨⟨v6.1, v6.2, rfl, hf.symm, by rw [ht]; exact hP, va_K.moved hW.alike hK⟩, hS.F ht⟩) hS.2.2 d_RM_left_65
  · rw [if_neg c1] at hf
    refine lv_iconst (v := 0) hx hb d_RM_left_8 (by decide) ?_
    refine lv_goto (tgt := 13) hx hb d_RM_left_9 (by decide) ?_
    refine va_put (D := D) (ci := 5) (v := .int (0 : Int32)) (ty := .int) (C := R_RM) (T := T_RM) (N := 13) hx hb ht i_RM t_RM t_RM_ok n_RM hown hK hP (X_D hI hAd) hS 33 Xa_33 rfl 0 (by decide) (ht _ mF_RM_36) (fun _ h9 => h9) rfl (by decide +kernel) rfl rfl (Nat.le_of_ble_eq_true rfl) d_RM_left_13 (fun H locs hP _ hS => ?_)
    replace hP := X_putI (by decide) hP rfl
    refine lv_iconst (v := 0) hx hb d_RM_left_16 (by decide) ?_
    refine lv_istore_n (lv' := [(1, .int (0 : Int32)), (0, .ref (ad 33))]) hx hb d_RM_left_17 rfl hl (by decide) rfl (fun ls hl => ?_)
    refine lv_iconst (v := 0) hx hb d_RM_left_18 (by decide) ?_
    refine lv_istore_n (lv' := [(2, .int (0 : Int32)), (1, .int (0 : Int32)), (0, .ref (ad 33))]) hx hb d_RM_left_19 rfl hl (by decide) rfl (fun ls hl => ?_)
    have lp20_2 : ∀ (n : Nat) (x1_2 : Int32) (x2_2 : Int32) (Sx : SS) (H : Heap) (locs : List Loc) (ls : Array Slot), va_P D vwCl (X cA ad Sx) H → va_S A s.heap H locs → lv_has ls 3 [(0, .ref (ad 33)), (1, .int x1_2), (2, .int x2_2)] → f_RM_left_L20 n x1_2 x2_2 Sx ≠ none →
        (∀ v : Int32 × SS, f_RM_left_L20 n x1_2 x2_2 Sx = some v → ∀ (H : Heap) (locs : List Loc) (ls : Array Slot), va_P D vwCl (X cA ad v.2) H → va_S A s.heap H locs → lv_has ls 3 [(0, .ref (ad 33)), (1, .int v.1)] → W p l e (headSpec w_RM_left ({ frames := 2, cells := 0, slots := 0, locals := 50 })).room s m ([.ref (ad 33)] : List Value).toArray below meth c H locs 0 0 Q (F0 m 64 ls [])) →
        W p l e (headSpec w_RM_left ({ frames := 2, cells := 0, slots := 0, locals := 50 })).room s m ([.ref (ad 33)] : List Value).toArray below meth c H locs 0 0 Q (F0 m 20 ls []) := by
      intro n
      induction n with
      | zero => intro x1_2 x2_2 Sx H locs ls hP hS hl hs; exact absurd rfl hs
      | succ n ih =>
        intro x1_2 x2_2 Sx H locs ls hP hS hl hs hexit
        have hf := (f_RM_left_L20_s n x1_2 x2_2 Sx).symm
        refine lv_iload_n hx hb d_RM_left_20 rfl (lv_at hl 2 rfl) ?_
        refine lv_aload_n hx hb d_RM_left_21 rfl (lv_at hl 0 rfl) ?_
        refine va_calli (va_runV (As := []) (rest := [.int x2_2]) ⟨hx, hb, hml, hown, ht⟩ (c_RM_rows l D cA ad hI H.size Sx (fun hn => hs (by rw [hn] at hf; exact hf.symm))) (cwV 0 ht (good_G (gV mM_RM_87 mI_RM_rows mV_RM_rows mN_RM mk_RM_rows)) rfl rfl rfl (by decide +kernel) ⟨Nat.le_of_ble_eq_true rfl, Nat.le_of_ble_eq_true rfl⟩) ⟨fun a U g mk q => ⟨q.1, q.2.1, q.2.2.1, va_K.moved (u := U) (U := U.calling g mk a) (Vm.Alike.refl U.vm) q.2.2.2⟩, va_recv hK hP (ci := 5) (q0 := 33) rfl Xa_33, fun U hU hW => ⟨rfl, by rw [hU], by rw [hU]; exact hP, va_K.moved hW.alike hK⟩⟩ rfl rfl hl.1 rfl (lv_room (Nat.le_of_ble_eq_true rfl)) d_RM_left_22 ⟨Nat.le_of_ble_eq_true rfl, Nat.le_of_ble_eq_true rfl⟩) hS (fun q _ h => hAS _ hS.1 q h) (fun q h => hAS _ hS.1 q h) (fun r4 _ t H locs ht9 hvm hw hB hz1 hk1 hS => ?_)
        obtain ⟨hP, hK9⟩ := hB
        rw [ht9] at hP
        rw [hw, Option.bind_some] at hf
        refine lv_icmp_ge (tgt := 64) hx hb d_RM_left_25 (by decide) (fun c7 => ?_) (fun c7 => ?_)
        · rw [if_pos c7] at hf
          exact hexit _ hf.symm _ _ _ hP hS (lv_sub hl [0, 1] rfl)
        · rw [if_neg c7] at hf
          refine lv_aload_n hx hb d_RM_left_28 rfl (lv_at hl 0 rfl) ?_
          refine va_get (D := D) (ci := 5) (v := .int (Sx.1 33 9)) (C := R_RM) (T := T_RM) (N := 13) hx hb ht i_RM hown hK hP 33 Xa_33 rfl 9 (by decide) (ht _ mF_RM_45) (fun _ h9 => h9) rfl d_RM_left_29 ?_
          refine lv_if_eq (tgt := 64) hx hb d_RM_left_32 (by decide) (fun c8 => ?_) (fun c8 => ?_)
          · rw [if_pos c8] at hf
            exact hexit _ hf.symm _ _ _ hP hS (lv_sub hl [0, 1] rfl)
          · rw [if_neg c8] at hf
            refine lv_iload_n hx hb d_RM_left_35 rfl (lv_at hl 1 rfl) ?_
            refine lv_aload_n hx hb d_RM_left_36 rfl (lv_at hl 0 rfl) ?_
            refine lv_iload_n hx hb d_RM_left_37 rfl (lv_at hl 2 rfl) ?_
            refine va_calli (va_runV (As := [.int x2_2]) (rest := [.int x1_2]) ⟨hx, hb, hml, hown, ht⟩ (c_RM_isFree l D cA ad hI H.size x2_2 Sx (fun hn => hs (by rw [hn] at hf; exact hf.symm))) (cwV 1 ht (good_G (gV mM_RM_91 mI_RM_isFree mV_RM_isFree mN_RM mk_RM_isFree)) rfl rfl rfl (by decide +kernel) ⟨Nat.le_of_ble_eq_true rfl, Nat.le_of_ble_eq_true rfl⟩) ⟨fun a U g mk q => ⟨q.1, q.2.1, q.2.2.1, va_K.moved (u := U) (U := U.calling g mk a) (Vm.Alike.refl U.vm) q.2.2.2⟩, va_recv hK hP (ci := 5) (q0 := 33) rfl Xa_33, fun U hU hW => ⟨rfl, by rw [hU], by rw [hU]; exact hP, va_K.moved hW.alike hK⟩⟩ rfl rfl hl.1 rfl (lv_room (Nat.le_of_ble_eq_true rfl)) d_RM_left_38 ⟨Nat.le_of_ble_eq_true rfl, Nat.le_of_ble_eq_true rfl⟩) hS (fun q _ h => hAS _ hS.1 q h) (fun q h => hAS _ hS.1 q h) (fun r5 u5 t H locs ht9 hvm hw hB hz1 hk1 hS => ?_)
            obtain ⟨hP, hK9⟩ := hB
            rw [ht9] at hP
            obtain ⟨hw, hz5⟩ := hw
            rw [hw, Option.bind_some] at hf
            dsimp only at hf
            refine lv_if_eq (tgt := 55) hx hb d_RM_left_41 (by decide) (fun c9 => ?_) (fun c9 => ?_)
            · rw [if_pos c9] at hf
              refine lv_iconst (v := 0) hx hb d_RM_left_55 (by decide) ?_
              refine lv_iadd hx hb d_RM_left_56 ?_
              refine lv_istore_n (lv' := [(1, .int (x1_2 + (0 : Int32))), (0, .ref (ad 33)), (2, .int x2_2)]) hx hb d_RM_left_57 rfl hl (by decide) rfl (fun ls hl => ?_)
              refine lv_iinc (v := x2_2 + 1) (lv' := [(2, .int (x2_2 + 1)), (1, .int (x1_2 + (0 : Int32))), (0, .ref (ad 33))]) hx hb d_RM_left_58 hl (k := 2) rfl rfl (by decide) rfl (fun ls hl => ?_)
              refine lv_goto (tgt := 20) hx hb d_RM_left_61 (by decide) ?_
              exact ih (x1_2 + (0 : Int32)) (x2_2 + 1) u5 _ _ _ hP hS (lv_sub hl [2, 1, 0] rfl) (fun hn => hs (hf.symm.trans hn)) (fun v ho => hexit v (hf.symm.trans ho))
            · rw [if_neg c9] at hf
              refine lv_aload_n hx hb d_RM_left_44 rfl (lv_at hl 0 rfl) ?_
              refine va_calli (va_runV (As := []) (rest := [.int x1_2]) ⟨hx, hb, hml, hown, ht⟩ (c_RM_doorsOfRow l D cA ad hI H.size u5 (fun hn => hs (by rw [hn] at hf; exact hf.symm))) (cwV 0 ht (good_G (gV mM_RM_94 mI_RM_doorsOfRow mV_RM_doorsOfRow mN_RM mk_RM_doorsOfRow)) rfl rfl rfl (by decide +kernel) ⟨Nat.le_of_ble_eq_true rfl, Nat.le_of_ble_eq_true rfl⟩) ⟨fun a U g mk q => ⟨q.1, q.2.1, q.2.2.1, va_K.moved (u := U) (U := U.calling g mk a) (Vm.Alike.refl U.vm) q.2.2.2⟩, va_recv hK hP (ci := 5) (q0 := 33) rfl Xa_33, fun U hU hW => ⟨rfl, by rw [hU], by rw [hU]; exact hP, va_K.moved hW.alike hK⟩⟩ rfl rfl hl.1 rfl (lv_room (Nat.le_of_ble_eq_true rfl)) d_RM_left_45 ⟨Nat.le_of_ble_eq_true rfl, Nat.le_of_ble_eq_true rfl⟩) hS (fun q _ h => hAS _ hS.1 q h) (fun q h => hAS _ hS.1 q h) (fun r6 _ t H locs ht9 hvm hw hB hz1 hk1 hS => ?_)
              obtain ⟨hP, hK9⟩ := hB
              rw [ht9] at hP
              rw [hw, Option.bind_some] at hf
              refine lv_if_ne (tgt := 55) hx hb d_RM_left_48 (by decide) (fun c10 => ?_) (fun c10 => ?_)
              · rw [if_neg c10] at hf
                refine lv_iconst (v := 0) hx hb d_RM_left_55 (by decide) ?_
                refine lv_iadd hx hb d_RM_left_56 ?_
                refine lv_istore_n (lv' := [(1, .int (x1_2 + (0 : Int32))), (0, .ref (ad 33)), (2, .int x2_2)]) hx hb d_RM_left_57 rfl hl (by decide) rfl (fun ls hl => ?_)
                refine lv_iinc (v := x2_2 + 1) (lv' := [(2, .int (x2_2 + 1)), (1, .int (x1_2 + (0 : Int32))), (0, .ref (ad 33))]) hx hb d_RM_left_58 hl (k := 2) rfl rfl (by decide) rfl (fun ls hl => ?_)
                refine lv_goto (tgt := 20) hx hb d_RM_left_61 (by decide) ?_
                exact ih (x1_2 + (0 : Int32)) (x2_2 + 1) u5 _ _ _ hP hS (lv_sub hl [2, 1, 0] rfl) (fun hn => hs (hf.symm.trans hn)) (fun v ho => hexit v (hf.symm.trans ho))
              · rw [if_pos c10] at hf
                refine lv_iconst (v := 1) hx hb d_RM_left_51 (by decide) ?_
                refine lv_goto (tgt := 56) hx hb d_RM_left_52 (by decide) ?_
                refine lv_iadd hx hb d_RM_left_56 ?_
                refine lv_istore_n (lv' := [(1, .int (x1_2 + (1 : Int32))), (0, .ref (ad 33)), (2, .int x2_2)]) hx hb d_RM_left_57 rfl hl (by decide) rfl (fun ls hl => ?_)
                refine lv_iinc (v := x2_2 + 1) (lv' := [(2, .int (x2_2 + 1)), (1, .int (x1_2 + (1 : Int32))), (0, .ref (ad 33))]) hx hb d_RM_left_58 hl (k := 2) rfl rfl (by decide) rfl (fun ls hl => ?_)
                refine lv_goto (tgt := 20) hx hb d_RM_left_61 (by decide) ?_
                exact ih (x1_2 + (1 : Int32)) (x2_2 + 1) u5 _ _ _ hP hS (lv_sub hl [2, 1, 0] rfl) (fun hn => hs (hf.symm.trans hn)) (fun v ho => hexit v (hf.symm.trans ho))
    refine lp20_2 FU (0 : Int32) (0 : Int32) (wI S 33 0 (0 : Int32)) _ _ _ hP hS (lv_sub hl [2, 1, 0] rfl) (fun hn => ?_) (fun v11 hvv11 H locs ls hP hS hl => ?_)
    · rw [hn] at hf; exact hs hf.symm
    · rw [hvv11, Option.bind_some] at hf
      refine lv_iload_n hx hb d_RM_left_64 rfl (lv_at hl 1 rfl) ?_
      rw [← hQ]
      exact W.iret (v := v11.1) hx hb hr (fun t ht hW => ⟨⟨v11.1, v11.2, rfl, hf.symm, by rw [ht]; exact hP, va_K.moved hW.alike hK⟩, hS.F ht⟩) hS.2.2 d_RM_left_65
set_option maxHeartbeats 4000000 in
set_option maxRecDepth 100000 in
theorem c_RM_add (l : Launch) (D : va_G) (cA : Nat → ClassId) (ad : Nat → Nat) (hI : InjA ad) (sz : Nat) (a1 : Int32) (S : SS) (hs : f_RM_add a1 S ≠ none) : Met l y_RM_add w_RM_add ({ frames := 2, cells := 0, slots := 0, locals := 50 }) (va_Pc [.ref (ad 33), .int a1] (fun U => U.heap.size = sz ∧ va_P D vwCl (X cA ad S) U.heap ∧ va_K D vwCl (tysX cA) U)) (va_Qi (fun (r : Int32) (u : SS) => f_RM_add a1 S = some (r, u)) (fun (u : SS) t => va_P D vwCl (X cA ad u) t.heap ∧ va_K D vwCl (tysX cA) t) (AS ad sz)) 0 0 (AS ad sz) := by
  refine Met.ofW (cc := b_RM_add) (maxL := 5) (ret := (some .int)) (by decide) rfl ?_
  intro p e s m args below meth c s₁ B hml hv
  obtain ⟨rfl, hsz, hP, hK⟩ := hv
  have hx := B.exec
  have hb := B.bytes
  have hr := B.returns
  have hts := atoms_spec (ws := w_RM_add) B.pre
  have ht := fun w h => hts w (List.mem_cons_of_mem _ h)
  have hown : s.vm.findClass R_RM = some m.cls := findClass_of_methodNamed B.named
  have hlocks := B.notSynchronized
  subst hsz
  have hAd : ∀ q, q < NP → AS ad s.heap.size (ad q) := fun q h => Or.inl ⟨q, h, rfl⟩
  have hA : ∀ q : Nat, s.heap.size ≤ q → AS ad s.heap.size q := fun q h => Or.inr h
  have hAS : ∀ z : Nat, s.heap.size ≤ z → ∀ q : Nat, AS ad z q → AS ad s.heap.size q := fun z h q hq => hq.elim Or.inl (fun g => Or.inr (Nat.le_trans h g))
  generalize hAe : AS ad s.heap.size = A at hAd hA hAS ⊢
  have hS : va_S A s.heap s.heap [] := va_S.rf
  have hl := lv_entry ([.ref (ad 33), .int a1]) (n := 5) (Nat.le_of_ble_eq_true rfl)
  rw [lg_entry_eq]
  generalize (lg_sl ([.ref (ad 33), .int a1]) ++ List.replicate (5 - (lg_sl ([.ref (ad 33), .int a1])).length) Slot.unset).toArray = ls at hl ⊢
  have hl : lv_has ls 5 [(0, .ref (ad 33)), (1, .int a1)] := hl
  have hf := (f_RM_add_s a1 S).symm
  generalize hQ : MQ below _ _ s _ _ _ = Q
  refine lv_aload_n hx hb d_RM_add_0 rfl (lv_at hl 0 rfl) ?_
  refine lv_iload_n hx hb d_RM_add_1 rfl (lv_at hl 1 rfl) ?_
  refine lv_if_lt (tgt := 15) hx hb d_RM_add_2 (by decide) (fun c1 => ?_) (fun c1 => ?_)
  · rw [if_pos c1] at hf
    refine lv_iconst (v := 1) hx hb d_RM_add_15 (by decide) ?_
    refine lv_goto (tgt := 40) hx hb d_RM_add_16 (by decide) ?_
    refine va_put (D := D) (ci := 5) (v := .int (1 : Int32)) (ty := .int) (C := R_RM) (T := T_RM) (N := 13) hx hb ht i_RM t_RM t_RM_ok n_RM hown hK hP (X_D hI hAd) hS 33 Xa_33 rfl 0 (by decide) (ht _ mF_RM_36) (fun _ h9 => h9) rfl (by decide +kernel) rfl rfl (Nat.le_of_ble_eq_true rfl) d_RM_add_40 (fun H locs hP _ hS => ?_)
    replace hP := X_putI (by decide) hP rfl
    refine lv_aload_n hx hb d_RM_add_43 rfl (lv_at hl 0 rfl) ?_
    refine va_get (D := D) (ci := 5) (v := .int (1 : Int32)) (C := R_RM) (T := T_RM) (N := 13) hx hb ht i_RM hown hK hP 33 Xa_33 rfl 0 (by decide) (ht _ mF_RM_36) (fun _ h9 => h9) rfl d_RM_add_44 ?_
    refine lv_if_le (tgt := 52) hx hb d_RM_add_47 (by decide) (fun c2 => absurd c2 (by decide)) (fun c2 => ?_)
    refine lv_iconst (v := 0) hx hb d_RM_add_50 (by decide) ?_
    rw [← hQ]
    exact W.iret (v := (0 : Int32)) hx hb hr (fun t ht hW => ⟨⟨(0 : Int32), wI S 33 0 (1 : Int32), rfl, hf.symm, by rw [ht]; exact hP, va_K.moved hW.alike hK⟩, hS.F ht⟩) hS.2.2 d_RM_add_51
  · rw [if_neg c1] at hf
    refine lv_iload_n hx hb d_RM_add_5 rfl (lv_at hl 1 rfl) ?_
    refine lv_iconst (v := 1) hx hb d_RM_add_6 (by decide) ?_
    refine lv_aload_n hx hb d_RM_add_7 rfl (lv_at hl 0 rfl) ?_
    refine va_get (D := D) (ci := 5) (v := .int (S.1 33 4)) (C := R_RM) (T := T_RM) (N := 13) hx hb ht i_RM hown hK hP 33 Xa_33 rfl 4 (by decide) (ht _ mF_RM_42) (fun _ h9 => h9) rfl d_RM_add_8 ?_
    refine lv_ishl hx hb d_RM_add_11 ?_
    refine lv_icmp_lt (tgt := 19) hx hb d_RM_add_12 (by decide) (fun c3 => ?_) (fun c3 => ?_)
    · rw [if_pos c3] at hf
      refine lv_aload_n hx hb d_RM_add_19 rfl (lv_at hl 0 rfl) ?_
      refine va_get (D := D) (ci := 5) (v := .int (S.1 33 9)) (C := R_RM) (T := T_RM) (N := 13) hx hb ht i_RM hown hK hP 33 Xa_33 rfl 9 (by decide) (ht _ mF_RM_45) (fun _ h9 => h9) rfl d_RM_add_20 ?_
      refine lv_if_eq (tgt := 35) hx hb d_RM_add_23 (by decide) (fun c4 => ?_) (fun c4 => ?_)
      · rw [if_pos c4] at hf
        refine lv_iconst (v := 2) hx hb d_RM_add_35 (by decide) ?_
        refine lv_goto (tgt := 40) hx hb d_RM_add_36 (by decide) ?_
        refine va_put (D := D) (ci := 5) (v := .int (2 : Int32)) (ty := .int) (C := R_RM) (T := T_RM) (N := 13) hx hb ht i_RM t_RM t_RM_ok n_RM hown hK hP (X_D hI hAd) hS 33 Xa_33 rfl 0 (by decide) (ht _ mF_RM_36) (fun _ h9 => h9) rfl (by decide +kernel) rfl rfl (Nat.le_of_ble_eq_true rfl) d_RM_add_40 (fun H locs hP _ hS => ?_)
        replace hP := X_putI (by decide) hP rfl
        refine lv_aload_n hx hb d_RM_add_43 rfl (lv_at hl 0 rfl) ?_
        refine va_get (D := D) (ci := 5) (v := .int (2 : Int32)) (C := R_RM) (T := T_RM) (N := 13) hx hb ht i_RM hown hK hP 33 Xa_33 rfl 0 (by decide) (ht _ mF_RM_36) (fun _ h9 => h9) rfl d_RM_add_44 ?_
        refine lv_if_le (tgt := 52) hx hb d_RM_add_47 (by decide) (fun c5 => absurd c5 (by decide)) (fun c5 => ?_)
        refine lv_iconst (v := 0) hx hb d_RM_add_50 (by decide) ?_
        rw [← hQ]
        exact W.iret (v := (0 : Int32)) hx hb hr (fun t ht hW => ⟨⟨(0 : Int32), wI S 33 0 (2 : Int32), rfl, hf.symm, by rw [ht]; exact hP, va_K.moved hW.alike hK⟩, hS.F ht⟩) hS.2.2 d_RM_add_51
      · rw [if_neg c4] at hf
        refine lv_aload_n hx hb d_RM_add_26 rfl (lv_at hl 0 rfl) ?_
        refine va_get (D := D) (ci := 5) (v := .int (S.1 33 3)) (C := R_RM) (T := T_RM) (N := 13) hx hb ht i_RM hown hK hP 33 Xa_33 rfl 3 (by decide) (ht _ mF_RM_39) (fun _ h9 => h9) rfl d_RM_add_27 ?_
        refine lv_bipush (v := 8) hx hb d_RM_add_30 (by decide) ?_
        refine lv_icmp_ne (tgt := 39) hx hb d_RM_add_32 (by decide) (fun c6 => ?_) (fun c6 => ?_)
        · rw [if_neg c6] at hf
          refine lv_iconst (v := 0) hx hb d_RM_add_39 (by decide) ?_
          refine va_put (D := D) (ci := 5) (v := .int (0 : Int32)) (ty := .int) (C := R_RM) (T := T_RM) (N := 13) hx hb ht i_RM t_RM t_RM_ok n_RM hown hK hP (X_D hI hAd) hS 33 Xa_33 rfl 0 (by decide) (ht _ mF_RM_36) (fun _ h9 => h9) rfl (by decide +kernel) rfl rfl (Nat.le_of_ble_eq_true rfl) d_RM_add_40 (fun H locs hP _ hS => ?_)
          replace hP := X_putI (by decide) hP rfl
          refine lv_aload_n hx hb d_RM_add_43 rfl (lv_at hl 0 rfl) ?_
          refine va_get (D := D) (ci := 5) (v := .int (0 : Int32)) (C := R_RM) (T := T_RM) (N := 13) hx hb ht i_RM hown hK hP 33 Xa_33 rfl 0 (by decide) (ht _ mF_RM_36) (fun _ h9 => h9) rfl d_RM_add_44 ?_
          refine lv_if_le (tgt := 52) hx hb d_RM_add_47 (by decide) (fun c7 => ?_) (fun c7 => absurd c7 (by decide))
          refine lv_aload_n hx hb d_RM_add_52 rfl (lv_at hl 0 rfl) ?_
          refine va_calli (va_runV (As := []) (rest := []) ⟨hx, hb, hml, hown, ht⟩ (c_RM_rows l D cA ad hI H.size (wI S 33 0 (0 : Int32)) (fun hn => hs (by rw [hn] at hf; exact hf.symm))) (cwV 0 ht (good_G (gV mM_RM_87 mI_RM_rows mV_RM_rows mN_RM mk_RM_rows)) rfl rfl rfl (by decide +kernel) ⟨Nat.le_of_ble_eq_true rfl, Nat.le_of_ble_eq_true rfl⟩) ⟨fun a U g mk q => ⟨q.1, q.2.1, q.2.2.1, va_K.moved (u := U) (U := U.calling g mk a) (Vm.Alike.refl U.vm) q.2.2.2⟩, va_recv hK hP (ci := 5) (q0 := 33) rfl Xa_33, fun U hU hW => ⟨rfl, by rw [hU], by rw [hU]; exact hP, va_K.moved hW.alike hK⟩⟩ rfl rfl hl.1 rfl (lv_room (Nat.le_of_ble_eq_true rfl)) d_RM_add_53 ⟨Nat.le_of_ble_eq_true rfl, Nat.le_of_ble_eq_true rfl⟩) hS (fun q _ h => hAS _ hS.1 q h) (fun q h => hAS _ hS.1 q h) (fun r1 _ t H locs ht9 hvm hw hB hz1 hk1 hS => ?_)
          obtain ⟨hP, hK9⟩ := hB
          rw [ht9] at hP
          rw [hw, Option.bind_some] at hf
          refine lv_istore_n (lv' := [(2, .int r1), (0, .ref (ad 33)), (1, .int a1)]) hx hb d_RM_add_56 rfl hl (by decide) rfl (fun ls hl => ?_)
          refine lv_iconst (v := 0) hx hb d_RM_add_57 (by decide) ?_
          refine lv_istore_n (lv' := [(3, .int (0 : Int32)), (2, .int r1), (0, .ref (ad 33)), (1, .int a1)]) hx hb d_RM_add_58 rfl hl (by decide) rfl (fun ls hl => ?_)
          have lp59_1 : ∀ (n : Nat) (x3_1 : Int32) (Sx : SS) (H : Heap) (locs : List Loc) (ls : Array Slot), va_P D vwCl (X cA ad Sx) H → va_S A s.heap H locs → lv_has ls 5 [(0, .ref (ad 33)), (1, .int a1), (2, .int r1), (3, .int x3_1)] → f_RM_add_L59 a1 r1 n x3_1 Sx ≠ none →
              (∀ o : Int32 × SS, f_RM_add_L59 a1 r1 n x3_1 Sx = some (.inl o) → f_RM_add a1 S = some o) →
              (∀ v : SS, f_RM_add_L59 a1 r1 n x3_1 Sx = some (.inr v) → ∀ (H : Heap) (locs : List Loc) (ls : Array Slot), va_P D vwCl (X cA ad v) H → va_S A s.heap H locs → lv_has ls 5 [(0, .ref (ad 33)), (1, .int a1), (2, .int r1)] → W p l e (headSpec w_RM_add ({ frames := 2, cells := 0, slots := 0, locals := 50 })).room s m ([.ref (ad 33), .int a1] : List Value).toArray below meth c H locs 0 0 Q (F0 m 191 ls [])) →
              W p l e (headSpec w_RM_add ({ frames := 2, cells := 0, slots := 0, locals := 50 })).room s m ([.ref (ad 33), .int a1] : List Value).toArray below meth c H locs 0 0 Q (F0 m 59 ls []) := by
            intro n
            induction n with
            | zero => intro x3_1 Sx H locs ls hP hS hl hs; exact absurd rfl hs
            | succ n ih =>
              intro x3_1 Sx H locs ls hP hS hl hs hret hexit
              have hf := (f_RM_add_L59_s a1 r1 n x3_1 Sx).symm
              refine lv_iload_n hx hb d_RM_add_59 rfl (lv_at hl 3 rfl) ?_
              refine lv_iload_n hx hb d_RM_add_60 rfl (lv_at hl 2 rfl) ?_
              refine lv_icmp_ge (tgt := 191) hx hb d_RM_add_61 (by decide) (fun c8 => ?_) (fun c8 => ?_)
              · rw [if_pos c8] at hf
                exact hexit _ hf.symm _ _ _ hP hS (lv_sub hl [0, 1, 2] rfl)
              · rw [if_neg c8] at hf
                refine lv_aload_n hx hb d_RM_add_64 rfl (lv_at hl 0 rfl) ?_
                refine lv_iload_n hx hb d_RM_add_65 rfl (lv_at hl 3 rfl) ?_
                refine va_calli (va_runV (As := [.int x3_1]) (rest := []) ⟨hx, hb, hml, hown, ht⟩ (c_RM_isFree l D cA ad hI H.size x3_1 Sx (fun hn => hs (by rw [hn] at hf; exact hf.symm))) (cwV 1 ht (good_G (gV mM_RM_91 mI_RM_isFree mV_RM_isFree mN_RM mk_RM_isFree)) rfl rfl rfl (by decide +kernel) ⟨Nat.le_of_ble_eq_true rfl, Nat.le_of_ble_eq_true rfl⟩) ⟨fun a U g mk q => ⟨q.1, q.2.1, q.2.2.1, va_K.moved (u := U) (U := U.calling g mk a) (Vm.Alike.refl U.vm) q.2.2.2⟩, va_recv hK hP (ci := 5) (q0 := 33) rfl Xa_33, fun U hU hW => ⟨rfl, by rw [hU], by rw [hU]; exact hP, va_K.moved hW.alike hK⟩⟩ rfl rfl hl.1 rfl (lv_room (Nat.le_of_ble_eq_true rfl)) d_RM_add_66 ⟨Nat.le_of_ble_eq_true rfl, Nat.le_of_ble_eq_true rfl⟩) hS (fun q _ h => hAS _ hS.1 q h) (fun q h => hAS _ hS.1 q h) (fun r2 u2 t H locs ht9 hvm hw hB hz1 hk1 hS => ?_)
                obtain ⟨hP, hK9⟩ := hB
                rw [ht9] at hP
                obtain ⟨hw, hz2⟩ := hw
                rw [hw, Option.bind_some] at hf
                dsimp only at hf
                refine lv_if_eq (tgt := 185) hx hb d_RM_add_69 (by decide) (fun c9 => ?_) (fun c9 => ?_)
                · rw [if_pos c9] at hf
                  refine lv_iinc (v := x3_1 + 1) (lv' := [(3, .int (x3_1 + 1)), (0, .ref (ad 33)), (1, .int a1), (2, .int r1)]) hx hb d_RM_add_185 hl (k := 3) rfl rfl (by decide) rfl (fun ls hl => ?_)
                  refine lv_goto (tgt := 59) hx hb d_RM_add_188 (by decide) ?_
                  exact ih (x3_1 + 1) u2 _ _ _ hP hS (lv_sub hl [1, 2, 3, 0] rfl) (fun hn => hs (hf.symm.trans hn)) (fun o ho => hret o (hf.symm.trans ho)) (fun v ho => hexit v (hf.symm.trans ho))
                · rw [if_neg c9] at hf
                  refine lv_aload_n hx hb d_RM_add_72 rfl (lv_at hl 0 rfl) ?_
                  refine va_calli (va_runV (As := []) (rest := []) ⟨hx, hb, hml, hown, ht⟩ (c_RM_doorsOfRow l D cA ad hI H.size u2 (fun hn => hs (by rw [hn] at hf; exact hf.symm))) (cwV 0 ht (good_G (gV mM_RM_94 mI_RM_doorsOfRow mV_RM_doorsOfRow mN_RM mk_RM_doorsOfRow)) rfl rfl rfl (by decide +kernel) ⟨Nat.le_of_ble_eq_true rfl, Nat.le_of_ble_eq_true rfl⟩) ⟨fun a U g mk q => ⟨q.1, q.2.1, q.2.2.1, va_K.moved (u := U) (U := U.calling g mk a) (Vm.Alike.refl U.vm) q.2.2.2⟩, va_recv hK hP (ci := 5) (q0 := 33) rfl Xa_33, fun U hU hW => ⟨rfl, by rw [hU], by rw [hU]; exact hP, va_K.moved hW.alike hK⟩⟩ rfl rfl hl.1 rfl (lv_room (Nat.le_of_ble_eq_true rfl)) d_RM_add_73 ⟨Nat.le_of_ble_eq_true rfl, Nat.le_of_ble_eq_true rfl⟩) hS (fun q _ h => hAS _ hS.1 q h) (fun q h => hAS _ hS.1 q h) (fun r3 _ t H locs ht9 hvm hw hB hz1 hk1 hS => ?_)
                  obtain ⟨hP, hK9⟩ := hB
                  rw [ht9] at hP
                  rw [hw, Option.bind_some] at hf
                  refine lv_iload_n hx hb d_RM_add_76 rfl (lv_at hl 1 rfl) ?_
                  refine lv_icmp_ne (tgt := 185) hx hb d_RM_add_77 (by decide) (fun c10 => ?_) (fun c10 => ?_)
                  · rw [if_neg c10] at hf
                    refine lv_iinc (v := x3_1 + 1) (lv' := [(3, .int (x3_1 + 1)), (0, .ref (ad 33)), (1, .int a1), (2, .int r1)]) hx hb d_RM_add_185 hl (k := 3) rfl rfl (by decide) rfl (fun ls hl => ?_)
                    refine lv_goto (tgt := 59) hx hb d_RM_add_188 (by decide) ?_
                    exact ih (x3_1 + 1) u2 _ _ _ hP hS (lv_sub hl [1, 2, 3, 0] rfl) (fun hn => hs (hf.symm.trans hn)) (fun o ho => hret o (hf.symm.trans ho)) (fun v ho => hexit v (hf.symm.trans ho))
                  · rw [if_pos c10] at hf
                    refine lv_iconst (v := 0) hx hb d_RM_add_80 (by decide) ?_
                    refine lv_istore (lv' := [(4, .int (0 : Int32)), (0, .ref (ad 33)), (1, .int a1), (2, .int r1), (3, .int x3_1)]) hx hb d_RM_add_81 hl (by decide) rfl (fun ls hl => ?_)
                    have lp83_2 : ∀ (n : Nat) (x4_2 : Int32) (Sx : SS) (H : Heap) (locs : List Loc) (ls : Array Slot), va_P D vwCl (X cA ad Sx) H → va_S A s.heap H locs → lv_has ls 5 [(0, .ref (ad 33)), (1, .int a1), (4, .int x4_2)] → f_RM_add_L83 a1 n x4_2 Sx ≠ none →
                        (∀ v : SS, f_RM_add_L83 a1 n x4_2 Sx = some v → ∀ (H : Heap) (locs : List Loc) (ls : Array Slot), va_P D vwCl (X cA ad v) H → va_S A s.heap H locs → lv_has ls 5 [(0, .ref (ad 33)), (1, .int a1)] → W p l e (headSpec w_RM_add ({ frames := 2, cells := 0, slots := 0, locals := 50 })).room s m ([.ref (ad 33), .int a1] : List Value).toArray below meth c H locs 0 0 Q (F0 m 122 ls [])) →
                        W p l e (headSpec w_RM_add ({ frames := 2, cells := 0, slots := 0, locals := 50 })).room s m ([.ref (ad 33), .int a1] : List Value).toArray below meth c H locs 0 0 Q (F0 m 83 ls []) := by
                      intro n
                      induction n with
                      | zero => intro x4_2 Sx H locs ls hP hS hl hs; exact absurd rfl hs
                      | succ n ih =>
                        intro x4_2 Sx H locs ls hP hS hl hs hexit
                        have hf := (f_RM_add_L83_s a1 n x4_2 Sx).symm
                        refine lv_iload hx hb d_RM_add_83 (lv_at hl 2 rfl) ?_
                        refine lv_aload_n hx hb d_RM_add_85 rfl (lv_at hl 0 rfl) ?_
                        refine va_get (D := D) (ci := 5) (v := .int (Sx.1 33 1)) (C := R_RM) (T := T_RM) (N := 13) hx hb ht i_RM hown hK hP 33 Xa_33 rfl 1 (by decide) (ht _ mF_RM_30) (fun _ h9 => h9) rfl d_RM_add_86 ?_
                        refine lv_icmp_ge (tgt := 122) hx hb d_RM_add_89 (by decide) (fun c11 => ?_) (fun c11 => ?_)
                        · rw [if_pos c11] at hf
                          exact hexit _ hf.symm _ _ _ hP hS (lv_sub hl [0, 1] rfl)
                        · rw [if_neg c11] at hf
                          refine lv_aload_n hx hb d_RM_add_92 rfl (lv_at hl 0 rfl) ?_
                          refine va_get (D := D) (ci := 5) (v := .ref (ad 36)) (C := R_RM) (T := T_RM) (N := 13) hx hb ht i_RM hown hK hP 33 Xa_33 rfl 11 (by decide) (ht _ mF_RM_23) (fun _ h9 => h9) rfl d_RM_add_93 ?_
                          refine lv_aload_n hx hb d_RM_add_96 rfl (lv_at hl 0 rfl) ?_
                          refine va_get (D := D) (ci := 5) (v := .int (Sx.1 33 1)) (C := R_RM) (T := T_RM) (N := 13) hx hb ht i_RM hown hK hP 33 Xa_33 rfl 1 (by decide) (ht _ mF_RM_30) (fun _ h9 => h9) rfl d_RM_add_97 ?_
                          refine lv_aload_n hx hb d_RM_add_100 rfl (lv_at hl 0 rfl) ?_
                          refine va_get (D := D) (ci := 5) (v := .int (Sx.1 33 3)) (C := R_RM) (T := T_RM) (N := 13) hx hb ht i_RM hown hK hP 33 Xa_33 rfl 3 (by decide) (ht _ mF_RM_39) (fun _ h9 => h9) rfl d_RM_add_101 ?_
                          refine lv_imul hx hb d_RM_add_104 ?_
                          refine lv_iload hx hb d_RM_add_105 (lv_at hl 2 rfl) ?_
                          refine lv_iadd hx hb d_RM_add_107 ?_
                          refine lv_aload_n hx hb d_RM_add_108 rfl (lv_at hl 0 rfl) ?_
                          refine va_get (D := D) (ci := 5) (v := .ref (ad 37)) (C := R_RM) (T := T_RM) (N := 13) hx hb ht i_RM hown hK hP 33 Xa_33 rfl 12 (by decide) (ht _ mF_RM_27) (fun _ h9 => h9) rfl d_RM_add_109 ?_
                          refine lv_iload hx hb d_RM_add_112 (lv_at hl 2 rfl) ?_
                          by_cases b12 : oob x4_2 6
                          · rw [if_pos b12] at hf; exact absurd hf.symm hs
                          rw [if_neg b12] at hf
                          refine va_iald (f := Sx.1 37) hx hb hK hP 37 0 Xa_37 rfl b12 d_RM_add_114 ?_
                          by_cases b13 : oob (((Sx.1 33 1) * (Sx.1 33 3)) + x4_2) 48
                          · rw [if_pos b13] at hf; exact absurd hf.symm hs
                          rw [if_neg b13] at hf
                          refine va_iast hx hb hK hP (X_D hI hAd) hS 36 0 Xa_36 rfl b13 d_RM_add_115 (fun H locs hP _ hS => ?_)
                          replace hP := X_stI (by decide) Xc_36 hP
                          refine lv_iinc (v := x4_2 + 1) (lv' := [(4, .int (x4_2 + 1)), (0, .ref (ad 33)), (1, .int a1)]) hx hb d_RM_add_116 hl (k := 2) rfl rfl (by decide) rfl (fun ls hl => ?_)
                          refine lv_goto (tgt := 83) hx hb d_RM_add_119 (by decide) ?_
                          exact ih (x4_2 + 1) (wI Sx 36 (((Sx.1 33 1) * (Sx.1 33 3)) + x4_2).toNatClampNeg (Sx.1 37 x4_2.toNatClampNeg)) _ _ _ hP hS (lv_sub hl [1, 2, 0] rfl) (fun hn => hs (hf.symm.trans hn)) (fun v ho => hexit v (hf.symm.trans ho))
                    refine lp83_2 FU (0 : Int32) u2 _ _ _ hP hS (lv_sub hl [1, 2, 0] rfl) (fun hn => ?_) (fun v14 hvv14 H locs ls hP hS hl => ?_)
                    · rw [hn] at hf; exact hs hf.symm
                    · rw [hvv14, Option.bind_some] at hf
                      refine lv_iconst (v := 0) hx hb d_RM_add_122 (by decide) ?_
                      refine lv_istore (lv' := [(4, .int (0 : Int32)), (0, .ref (ad 33)), (1, .int a1)]) hx hb d_RM_add_123 hl (by decide) rfl (fun ls hl => ?_)
                      have lp125_3 : ∀ (n : Nat) (x4_3 : Int32) (Sx : SS) (H : Heap) (locs : List Loc) (ls : Array Slot), va_P D vwCl (X cA ad Sx) H → va_S A s.heap H locs → lv_has ls 5 [(0, .ref (ad 33)), (1, .int a1), (4, .int x4_3)] → f_RM_add_L125 a1 n x4_3 Sx ≠ none →
                          (∀ v : SS, f_RM_add_L125 a1 n x4_3 Sx = some v → ∀ (H : Heap) (locs : List Loc) (ls : Array Slot), va_P D vwCl (X cA ad v) H → va_S A s.heap H locs → lv_has ls 5 [(0, .ref (ad 33)), (1, .int a1)] → W p l e (headSpec w_RM_add ({ frames := 2, cells := 0, slots := 0, locals := 50 })).room s m ([.ref (ad 33), .int a1] : List Value).toArray below meth c H locs 0 0 Q (F0 m 168 ls [])) →
                          W p l e (headSpec w_RM_add ({ frames := 2, cells := 0, slots := 0, locals := 50 })).room s m ([.ref (ad 33), .int a1] : List Value).toArray below meth c H locs 0 0 Q (F0 m 125 ls []) := by
                        intro n
                        induction n with
                        | zero => intro x4_3 Sx H locs ls hP hS hl hs; exact absurd rfl hs
                        | succ n ih =>
                          intro x4_3 Sx H locs ls hP hS hl hs hexit
                          have hf := (f_RM_add_L125_s a1 n x4_3 Sx).symm
                          refine lv_iload hx hb d_RM_add_125 (lv_at hl 2 rfl) ?_
                          refine lv_bipush (v := 6) hx hb d_RM_add_127 (by decide) ?_
                          refine lv_icmp_ge (tgt := 168) hx hb d_RM_add_129 (by decide) (fun c15 => ?_) (fun c15 => ?_)
                          · rw [if_pos c15] at hf
                            exact hexit _ hf.symm _ _ _ hP hS (lv_sub hl [0, 1] rfl)
                          · rw [if_neg c15] at hf
                            refine lv_aload_n hx hb d_RM_add_132 rfl (lv_at hl 0 rfl) ?_
                            refine va_get (D := D) (ci := 5) (v := .ref (ad 34)) (C := R_RM) (T := T_RM) (N := 13) hx hb ht i_RM hown hK hP 33 Xa_33 rfl 5 (by decide) (ht _ mF_RM_7) (fun _ h9 => h9) rfl d_RM_add_133 ?_
                            refine lv_bipush (v := 6) hx hb d_RM_add_136 (by decide) ?_
                            refine lv_aload_n hx hb d_RM_add_138 rfl (lv_at hl 0 rfl) ?_
                            refine va_get (D := D) (ci := 5) (v := .int (Sx.1 33 3)) (C := R_RM) (T := T_RM) (N := 13) hx hb ht i_RM hown hK hP 33 Xa_33 rfl 3 (by decide) (ht _ mF_RM_39) (fun _ h9 => h9) rfl d_RM_add_139 ?_
                            refine lv_imul hx hb d_RM_add_142 ?_
                            refine lv_iload hx hb d_RM_add_143 (lv_at hl 2 rfl) ?_
                            refine lv_iadd hx hb d_RM_add_145 ?_
                            refine lv_iload_n hx hb d_RM_add_146 rfl (lv_at hl 1 rfl) ?_
                            refine lv_iload hx hb d_RM_add_147 (lv_at hl 2 rfl) ?_
                            refine lv_ishr hx hb d_RM_add_149 ?_
                            refine lv_iconst (v := 1) hx hb d_RM_add_150 (by decide) ?_
                            refine lv_iand hx hb d_RM_add_151 ?_
                            refine lv_iconst (v := 1) hx hb d_RM_add_152 (by decide) ?_
                            refine lv_icmp_ne (tgt := 160) hx hb d_RM_add_153 (by decide) (fun c16 => ?_) (fun c16 => ?_)
                            · rw [if_neg c16] at hf
                              refine lv_iconst (v := 0) hx hb d_RM_add_160 (by decide) ?_
                              by_cases b17 : oob (((6 : Int32) * (Sx.1 33 3)) + x4_3) 48
                              · rw [if_pos b17] at hf; exact absurd hf.symm hs
                              rw [if_neg b17] at hf
                              refine va_zast hx hb hK hP (X_D hI hAd) hS 34 4 Xa_34 rfl b17 d_RM_add_161 (fun H locs hP _ hS => ?_)
                              replace hP := X_stI (by decide) Xc_34 hP
                              refine lv_iinc (v := x4_3 + 1) (lv' := [(4, .int (x4_3 + 1)), (0, .ref (ad 33)), (1, .int a1)]) hx hb d_RM_add_162 hl (k := 2) rfl rfl (by decide) rfl (fun ls hl => ?_)
                              refine lv_goto (tgt := 125) hx hb d_RM_add_165 (by decide) ?_
                              exact ih (x4_3 + 1) (wI Sx 34 (((6 : Int32) * (Sx.1 33 3)) + x4_3).toNatClampNeg (vp_nar .boolean (0 : Int32))) _ _ _ hP hS (lv_sub hl [1, 2, 0] rfl) (fun hn => hs (hf.symm.trans hn)) (fun v ho => hexit v (hf.symm.trans ho))
                            · rw [if_pos c16] at hf
                              refine lv_iconst (v := 1) hx hb d_RM_add_156 (by decide) ?_
                              refine lv_goto (tgt := 161) hx hb d_RM_add_157 (by decide) ?_
                              by_cases b18 : oob (((6 : Int32) * (Sx.1 33 3)) + x4_3) 48
                              · rw [if_pos b18] at hf; exact absurd hf.symm hs
                              rw [if_neg b18] at hf
                              refine va_zast hx hb hK hP (X_D hI hAd) hS 34 4 Xa_34 rfl b18 d_RM_add_161 (fun H locs hP _ hS => ?_)
                              replace hP := X_stI (by decide) Xc_34 hP
                              refine lv_iinc (v := x4_3 + 1) (lv' := [(4, .int (x4_3 + 1)), (0, .ref (ad 33)), (1, .int a1)]) hx hb d_RM_add_162 hl (k := 2) rfl rfl (by decide) rfl (fun ls hl => ?_)
                              refine lv_goto (tgt := 125) hx hb d_RM_add_165 (by decide) ?_
                              exact ih (x4_3 + 1) (wI Sx 34 (((6 : Int32) * (Sx.1 33 3)) + x4_3).toNatClampNeg (vp_nar .boolean (1 : Int32))) _ _ _ hP hS (lv_sub hl [1, 2, 0] rfl) (fun hn => hs (hf.symm.trans hn)) (fun v ho => hexit v (hf.symm.trans ho))
                      refine lp125_3 FU (0 : Int32) v14 _ _ _ hP hS (lv_sub hl [1, 2, 0] rfl) (fun hn => ?_) (fun v19 hvv19 H locs ls hP hS hl => ?_)
                      · rw [hn] at hf; exact hs hf.symm
                      · rw [hvv19, Option.bind_some] at hf
                        refine lv_aload_n hx hb d_RM_add_168 rfl (lv_at hl 0 rfl) ?_
                        refine lv_dup hx hb d_RM_add_169 rfl ?_
                        refine va_get (D := D) (ci := 5) (v := .int (v19.1 33 3)) (C := R_RM) (T := T_RM) (N := 13) hx hb ht i_RM hown hK hP 33 Xa_33 rfl 3 (by decide) (ht _ mF_RM_39) (fun _ h9 => h9) rfl d_RM_add_170 ?_
                        refine lv_iconst (v := 1) hx hb d_RM_add_173 (by decide) ?_
                        refine lv_iadd hx hb d_RM_add_174 ?_
                        refine va_put (D := D) (ci := 5) (v := .int ((v19.1 33 3) + (1 : Int32))) (ty := .int) (C := R_RM) (T := T_RM) (N := 13) hx hb ht i_RM t_RM t_RM_ok n_RM hown hK hP (X_D hI hAd) hS 33 Xa_33 rfl 3 (by decide) (ht _ mF_RM_39) (fun _ h9 => h9) rfl (by decide +kernel) rfl rfl (Nat.le_of_ble_eq_true rfl) d_RM_add_175 (fun H locs hP _ hS => ?_)
                        replace hP := X_putI (by decide) hP rfl
                        refine lv_aload_n hx hb d_RM_add_178 rfl (lv_at hl 0 rfl) ?_
                        refine va_get (D := D) (ci := 5) (v := .int ((v19.1 33 3) + (1 : Int32))) (C := R_RM) (T := T_RM) (N := 13) hx hb ht i_RM hown hK hP 33 Xa_33 rfl 3 (by decide) (ht _ mF_RM_39) (fun _ h9 => h9) rfl d_RM_add_179 ?_
                        refine lv_iconst (v := 1) hx hb d_RM_add_182 (by decide) ?_
                        refine lv_isub hx hb d_RM_add_183 ?_
                        rw [← hQ]
                        exact W.iret (v := ((v19.1 33 3) + (1 : Int32)) - (1 : Int32)) hx hb hr (fun t ht hW => ⟨⟨((v19.1 33 3) + (1 : Int32)) - (1 : Int32), wI v19 33 3 ((v19.1 33 3) + (1 : Int32)), rfl, hret _ hf.symm, by rw [ht]; exact hP, va_K.moved hW.alike hK⟩, hS.F ht⟩) hS.2.2 d_RM_add_184
          refine lp59_1 FU (0 : Int32) (wI S 33 0 (0 : Int32)) _ _ _ hP hS (lv_sub hl [2, 3, 1, 0] rfl) (fun hn => ?_) (fun o ho => ?_) (fun v20 hvv20 H locs ls hP hS hl => ?_)
          · rw [hn] at hf; exact hs hf.symm
          · rw [ho, Option.bind_some, Sum.elim_inl] at hf; exact hf.symm
          · rw [hvv20, Option.bind_some, Sum.elim_inr] at hf
            refine lv_iconst (v := (-1)) hx hb d_RM_add_191 (by decide) ?_
            rw [← hQ]
            exact W.iret (v := (-1 : Int32)) hx hb hr (fun t ht hW => ⟨⟨(-1 : Int32), v20, rfl, hf.symm, by rw [ht]; exact hP, va_K.moved hW.alike hK⟩, hS.F ht⟩) hS.2.2 d_RM_add_192
        · rw [if_pos c6] at hf
          refine lv_iconst (v := 2) hx hb d_RM_add_35 (by decide) ?_
          refine lv_goto (tgt := 40) hx hb d_RM_add_36 (by decide) ?_
          refine va_put (D := D) (ci := 5) (v := .int (2 : Int32)) (ty := .int) (C := R_RM) (T := T_RM) (N := 13) hx hb ht i_RM t_RM t_RM_ok n_RM hown hK hP (X_D hI hAd) hS 33 Xa_33 rfl 0 (by decide) (ht _ mF_RM_36) (fun _ h9 => h9) rfl (by decide +kernel) rfl rfl (Nat.le_of_ble_eq_true rfl) d_RM_add_40 (fun H locs hP _ hS => ?_)
          replace hP := X_putI (by decide) hP rfl
          refine lv_aload_n hx hb d_RM_add_43 rfl (lv_at hl 0 rfl) ?_
          refine va_get (D := D) (ci := 5) (v := .int (2 : Int32)) (C := R_RM) (T := T_RM) (N := 13) hx hb ht i_RM hown hK hP 33 Xa_33 rfl 0 (by decide) (ht _ mF_RM_36) (fun _ h9 => h9) rfl d_RM_add_44 ?_
          refine lv_if_le (tgt := 52) hx hb d_RM_add_47 (by decide) (fun c21 => absurd c21 (by decide)) (fun c21 => ?_)
          refine lv_iconst (v := 0) hx hb d_RM_add_50 (by decide) ?_
          rw [← hQ]
          exact W.iret (v := (0 : Int32)) hx hb hr (fun t ht hW => ⟨⟨(0 : Int32), wI S 33 0 (2 : Int32), rfl, hf.symm, by rw [ht]; exact hP, va_K.moved hW.alike hK⟩, hS.F ht⟩) hS.2.2 d_RM_add_51
    · rw [if_neg c3] at hf
      refine lv_iconst (v := 1) hx hb d_RM_add_15 (by decide) ?_
      refine lv_goto (tgt := 40) hx hb d_RM_add_16 (by decide) ?_
      refine va_put (D := D) (ci := 5) (v := .int (1 : Int32)) (ty := .int) (C := R_RM) (T := T_RM) (N := 13) hx hb ht i_RM t_RM t_RM_ok n_RM hown hK hP (X_D hI hAd) hS 33 Xa_33 rfl 0 (by decide) (ht _ mF_RM_36) (fun _ h9 => h9) rfl (by decide +kernel) rfl rfl (Nat.le_of_ble_eq_true rfl) d_RM_add_40 (fun H locs hP _ hS => ?_)
      replace hP := X_putI (by decide) hP rfl
      refine lv_aload_n hx hb d_RM_add_43 rfl (lv_at hl 0 rfl) ?_
      refine va_get (D := D) (ci := 5) (v := .int (1 : Int32)) (C := R_RM) (T := T_RM) (N := 13) hx hb ht i_RM hown hK hP 33 Xa_33 rfl 0 (by decide) (ht _ mF_RM_36) (fun _ h9 => h9) rfl d_RM_add_44 ?_
      refine lv_if_le (tgt := 52) hx hb d_RM_add_47 (by decide) (fun c22 => absurd c22 (by decide)) (fun c22 => ?_)
      refine lv_iconst (v := 0) hx hb d_RM_add_50 (by decide) ?_
      rw [← hQ]
      exact W.iret (v := (0 : Int32)) hx hb hr (fun t ht hW => ⟨⟨(0 : Int32), wI S 33 0 (1 : Int32), rfl, hf.symm, by rw [ht]; exact hP, va_K.moved hW.alike hK⟩, hS.F ht⟩) hS.2.2 d_RM_add_51
set_option maxHeartbeats 4000000 in
set_option maxRecDepth 100000 in
theorem c_RM_heirs (l : Launch) (D : va_G) (cA : Nat → ClassId) (ad : Nat → Nat) (hI : InjA ad) (sz : Nat) (a1 : Int32) (S : SS) (hs : f_RM_heirs a1 S ≠ none) : Met l y_RM_heirs w_RM_heirs ({ frames := 2, cells := 0, slots := 0, locals := 51 }) (va_Pc [.ref (ad 33), .int a1] (fun U => U.heap.size = sz ∧ va_P D vwCl (X cA ad S) U.heap ∧ va_K D vwCl (tysX cA) U)) (va_Qi (fun (r : Int32) (u : SS) => f_RM_heirs a1 S = some (r, u)) (fun (u : SS) t => va_P D vwCl (X cA ad u) t.heap ∧ va_K D vwCl (tysX cA) t) (AS ad sz)) 0 0 (AS ad sz) := by
  refine Met.ofW (cc := b_RM_heirs) (maxL := 6) (ret := (some .int)) (by decide) rfl ?_
  intro p e s m args below meth c s₁ B hml hv
  obtain ⟨rfl, hsz, hP, hK⟩ := hv
  have hx := B.exec
  have hb := B.bytes
  have hr := B.returns
  have hts := atoms_spec (ws := w_RM_heirs) B.pre
  have ht := fun w h => hts w (List.mem_cons_of_mem _ h)
  have hown : s.vm.findClass R_RM = some m.cls := findClass_of_methodNamed B.named
  have hlocks := B.notSynchronized
  subst hsz
  have hAd : ∀ q, q < NP → AS ad s.heap.size (ad q) := fun q h => Or.inl ⟨q, h, rfl⟩
  have hA : ∀ q : Nat, s.heap.size ≤ q → AS ad s.heap.size q := fun q h => Or.inr h
  have hAS : ∀ z : Nat, s.heap.size ≤ z → ∀ q : Nat, AS ad z q → AS ad s.heap.size q := fun z h q hq => hq.elim Or.inl (fun g => Or.inr (Nat.le_trans h g))
  generalize hAe : AS ad s.heap.size = A at hAd hA hAS ⊢
  have hS : va_S A s.heap s.heap [] := va_S.rf
  have hl := lv_entry ([.ref (ad 33), .int a1]) (n := 6) (Nat.le_of_ble_eq_true rfl)
  rw [lg_entry_eq]
  generalize (lg_sl ([.ref (ad 33), .int a1]) ++ List.replicate (6 - (lg_sl ([.ref (ad 33), .int a1])).length) Slot.unset).toArray = ls at hl ⊢
  have hl : lv_has ls 6 [(0, .ref (ad 33)), (1, .int a1)] := hl
  have hf := (f_RM_heirs_s a1 S).symm
  generalize hQ : MQ below _ _ s _ _ _ = Q
  refine lv_aload_n hx hb d_RM_heirs_0 rfl (lv_at hl 0 rfl) ?_
  refine lv_aload_n hx hb d_RM_heirs_1 rfl (lv_at hl 0 rfl) ?_
  refine lv_iload_n hx hb d_RM_heirs_2 rfl (lv_at hl 1 rfl) ?_
  refine va_calli (va_runV (As := [.int a1]) (rest := [.ref (ad 33)]) ⟨hx, hb, hml, hown, ht⟩ (c_RM_noKey l D cA ad hI s.heap.size a1 S (fun hn => hs (by rw [hn] at hf; exact hf.symm))) (cwV 1 ht (good_G (gV mM_RM_49 mI_RM_noKey mV_RM_noKey mN_RM mk_RM_noKey)) rfl rfl rfl (by decide +kernel) ⟨Nat.le_of_ble_eq_true rfl, Nat.le_of_ble_eq_true rfl⟩) ⟨fun a U g mk q => ⟨q.1, q.2.1, q.2.2.1, va_K.moved (u := U) (U := U.calling g mk a) (Vm.Alike.refl U.vm) q.2.2.2⟩, va_recv hK hP (ci := 5) (q0 := 33) rfl Xa_33, fun U hU hW => ⟨rfl, by rw [hU], by rw [hU]; exact hP, va_K.moved hW.alike hK⟩⟩ rfl rfl hl.1 rfl (lv_room (Nat.le_of_ble_eq_true rfl)) d_RM_heirs_3 ⟨Nat.le_of_ble_eq_true rfl, Nat.le_of_ble_eq_true rfl⟩) hS (fun q _ h => hAS _ hS.1 q h) (fun q h => hAS _ hS.1 q h) (fun r1 _ t H locs ht9 hvm hw hB hz1 hk1 hS => ?_)
  obtain ⟨hP, hK9⟩ := hB
  rw [ht9] at hP
  obtain ⟨hw, hz1⟩ := hw
  rw [hw, Option.bind_some] at hf
  refine lv_if_eq (tgt := 13) hx hb d_RM_heirs_6 (by decide) (fun c1 => ?_) (fun c1 => ?_)
  · rw [if_pos c1] at hf
    refine lv_aload_n hx hb d_RM_heirs_13 rfl (lv_at hl 0 rfl) ?_
    refine va_get (D := D) (ci := 5) (v := .int (S.1 33 9)) (C := R_RM) (T := T_RM) (N := 13) hx hb ht i_RM hown hK hP 33 Xa_33 rfl 9 (by decide) (ht _ mF_RM_45) (fun _ h9 => h9) rfl d_RM_heirs_14 ?_
    refine lv_if_ne (tgt := 24) hx hb d_RM_heirs_17 (by decide) (fun c2 => ?_) (fun c2 => ?_)
    · rw [if_neg c2] at hf
      refine lv_iconst (v := 0) hx hb d_RM_heirs_24 (by decide) ?_
      refine va_put (D := D) (ci := 5) (v := .int (0 : Int32)) (ty := .int) (C := R_RM) (T := T_RM) (N := 13) hx hb ht i_RM t_RM t_RM_ok n_RM hown hK hP (X_D hI hAd) hS 33 Xa_33 rfl 0 (by decide) (ht _ mF_RM_36) (fun _ h9 => h9) rfl (by decide +kernel) rfl rfl (Nat.le_of_ble_eq_true rfl) d_RM_heirs_25 (fun H locs hP _ hS => ?_)
      replace hP := X_putI (by decide) hP rfl
      refine lv_aload_n hx hb d_RM_heirs_28 rfl (lv_at hl 0 rfl) ?_
      refine va_get (D := D) (ci := 5) (v := .int (0 : Int32)) (C := R_RM) (T := T_RM) (N := 13) hx hb ht i_RM hown hK hP 33 Xa_33 rfl 0 (by decide) (ht _ mF_RM_36) (fun _ h9 => h9) rfl d_RM_heirs_29 ?_
      refine lv_if_le (tgt := 37) hx hb d_RM_heirs_32 (by decide) (fun c3 => ?_) (fun c3 => absurd c3 (by decide))
      refine lv_iconst (v := 0) hx hb d_RM_heirs_37 (by decide) ?_
      refine lv_istore_n (lv' := [(2, .int (0 : Int32)), (0, .ref (ad 33)), (1, .int a1)]) hx hb d_RM_heirs_38 rfl hl (by decide) rfl (fun ls hl => ?_)
      refine lv_iconst (v := 0) hx hb d_RM_heirs_39 (by decide) ?_
      refine lv_istore_n (lv' := [(3, .int (0 : Int32)), (2, .int (0 : Int32)), (0, .ref (ad 33)), (1, .int a1)]) hx hb d_RM_heirs_40 rfl hl (by decide) rfl (fun ls hl => ?_)
      have lp41_1 : ∀ (n : Nat) (x2_1 : Int32) (x3_1 : Int32) (Sx : SS) (H : Heap) (locs : List Loc) (ls : Array Slot), va_P D vwCl (X cA ad Sx) H → va_S A s.heap H locs → lv_has ls 6 [(0, .ref (ad 33)), (1, .int a1), (2, .int x2_1), (3, .int x3_1)] → f_RM_heirs_L41 a1 n x2_1 x3_1 Sx ≠ none →
          (∀ v : Int32, f_RM_heirs_L41 a1 n x2_1 x3_1 Sx = some v → ∀ (H : Heap) (locs : List Loc) (ls : Array Slot), va_P D vwCl (X cA ad Sx) H → va_S A s.heap H locs → lv_has ls 6 [(0, .ref (ad 33)), (1, .int a1), (2, .int v)] → W p l e (headSpec w_RM_heirs ({ frames := 2, cells := 0, slots := 0, locals := 51 })).room s m ([.ref (ad 33), .int a1] : List Value).toArray below meth c H locs 0 0 Q (F0 m 140 ls [])) →
          W p l e (headSpec w_RM_heirs ({ frames := 2, cells := 0, slots := 0, locals := 51 })).room s m ([.ref (ad 33), .int a1] : List Value).toArray below meth c H locs 0 0 Q (F0 m 41 ls []) := by
        intro n
        induction n with
        | zero => intro x2_1 x3_1 Sx H locs ls hP hS hl hs; exact absurd rfl hs
        | succ n ih =>
          intro x2_1 x3_1 Sx H locs ls hP hS hl hs hexit
          have hf := (f_RM_heirs_L41_s a1 n x2_1 x3_1 Sx).symm
          refine lv_iload_n hx hb d_RM_heirs_41 rfl (lv_at hl 3 rfl) ?_
          refine lv_aload_n hx hb d_RM_heirs_42 rfl (lv_at hl 0 rfl) ?_
          refine va_get (D := D) (ci := 5) (v := .int (Sx.1 33 3)) (C := R_RM) (T := T_RM) (N := 13) hx hb ht i_RM hown hK hP 33 Xa_33 rfl 3 (by decide) (ht _ mF_RM_39) (fun _ h9 => h9) rfl d_RM_heirs_43 ?_
          refine lv_icmp_ge (tgt := 140) hx hb d_RM_heirs_46 (by decide) (fun c4 => ?_) (fun c4 => ?_)
          · rw [if_pos c4] at hf
            exact hexit _ hf.symm _ _ _ hP hS (lv_sub hl [0, 1, 2] rfl)
          · rw [if_neg c4] at hf
            refine lv_iload_n hx hb d_RM_heirs_49 rfl (lv_at hl 3 rfl) ?_
            refine lv_iload_n hx hb d_RM_heirs_50 rfl (lv_at hl 1 rfl) ?_
            refine lv_icmp_eq (tgt := 58) hx hb d_RM_heirs_51 (by decide) (fun c5 => ?_) (fun c5 => ?_)
            · rw [if_pos c5] at hf
              refine lv_iconst (v := 0) hx hb d_RM_heirs_58 (by decide) ?_
              refine lv_istore (lv' := [(4, .int (0 : Int32)), (0, .ref (ad 33)), (1, .int a1), (2, .int x2_1), (3, .int x3_1)]) hx hb d_RM_heirs_59 hl (by decide) rfl (fun ls hl => ?_)
              refine lv_iconst (v := 0) hx hb d_RM_heirs_61 (by decide) ?_
              refine lv_istore (lv' := [(5, .int (0 : Int32)), (4, .int (0 : Int32)), (0, .ref (ad 33)), (1, .int a1), (2, .int x2_1), (3, .int x3_1)]) hx hb d_RM_heirs_62 hl (by decide) rfl (fun ls hl => ?_)
              have lp64_2 : ∀ (n : Nat) (x4_2 : Int32) (x5_2 : Int32) (H : Heap) (locs : List Loc) (ls : Array Slot), va_P D vwCl (X cA ad Sx) H → va_S A s.heap H locs → lv_has ls 6 [(0, .ref (ad 33)), (1, .int a1), (2, .int x2_1), (3, .int x3_1), (4, .int x4_2), (5, .int x5_2)] → f_RM_heirs_L64 a1 x2_1 x3_1 n x4_2 x5_2 Sx ≠ none →
                  (∀ v : Int32, f_RM_heirs_L64 a1 x2_1 x3_1 n x4_2 x5_2 Sx = some v → ∀ (H : Heap) (locs : List Loc) (ls : Array Slot), va_P D vwCl (X cA ad Sx) H → va_S A s.heap H locs → lv_has ls 6 [(0, .ref (ad 33)), (1, .int a1), (2, .int x2_1), (3, .int x3_1), (4, .int v)] → W p l e (headSpec w_RM_heirs ({ frames := 2, cells := 0, slots := 0, locals := 51 })).room s m ([.ref (ad 33), .int a1] : List Value).toArray below meth c H locs 0 0 Q (F0 m 119 ls [])) →
                  W p l e (headSpec w_RM_heirs ({ frames := 2, cells := 0, slots := 0, locals := 51 })).room s m ([.ref (ad 33), .int a1] : List Value).toArray below meth c H locs 0 0 Q (F0 m 64 ls []) := by
                intro n
                induction n with
                | zero => intro x4_2 x5_2 H locs ls hP hS hl hs; exact absurd rfl hs
                | succ n ih =>
                  intro x4_2 x5_2 H locs ls hP hS hl hs hexit
                  have hf := (f_RM_heirs_L64_s a1 x2_1 x3_1 n x4_2 x5_2 Sx).symm
                  refine lv_iload hx hb d_RM_heirs_64 (lv_at hl 5 rfl) ?_
                  refine lv_aload_n hx hb d_RM_heirs_66 rfl (lv_at hl 0 rfl) ?_
                  refine va_get (D := D) (ci := 5) (v := .int (Sx.1 33 4)) (C := R_RM) (T := T_RM) (N := 13) hx hb ht i_RM hown hK hP 33 Xa_33 rfl 4 (by decide) (ht _ mF_RM_42) (fun _ h9 => h9) rfl d_RM_heirs_67 ?_
                  refine lv_icmp_ge (tgt := 119) hx hb d_RM_heirs_70 (by decide) (fun c6 => ?_) (fun c6 => ?_)
                  · rw [if_pos c6] at hf
                    exact hexit _ hf.symm _ _ _ hP hS (lv_sub hl [0, 1, 2, 3, 4] rfl)
                  · rw [if_neg c6] at hf
                    refine lv_iload hx hb d_RM_heirs_73 (lv_at hl 4 rfl) ?_
                    refine lv_if_eq (tgt := 110) hx hb d_RM_heirs_75 (by decide) (fun c7 => ?_) (fun c7 => ?_)
                    · rw [if_pos c7] at hf
                      refine lv_iconst (v := 0) hx hb d_RM_heirs_110 (by decide) ?_
                      refine lv_istore (lv' := [(4, .int (0 : Int32)), (0, .ref (ad 33)), (1, .int a1), (2, .int x2_1), (3, .int x3_1), (5, .int x5_2)]) hx hb d_RM_heirs_111 hl (by decide) rfl (fun ls hl => ?_)
                      refine lv_iinc (v := x5_2 + 1) (lv' := [(5, .int (x5_2 + 1)), (4, .int (0 : Int32)), (0, .ref (ad 33)), (1, .int a1), (2, .int x2_1), (3, .int x3_1)]) hx hb d_RM_heirs_113 hl (k := 5) rfl rfl (by decide) rfl (fun ls hl => ?_)
                      refine lv_goto (tgt := 64) hx hb d_RM_heirs_116 (by decide) ?_
                      exact ih (0 : Int32) (x5_2 + 1) _ _ _ hP hS (lv_sub hl [2, 3, 4, 5, 1, 0] rfl) (fun hn => hs (hf.symm.trans hn)) (fun v ho => hexit v (hf.symm.trans ho))
                    · rw [if_neg c7] at hf
                      refine lv_aload_n hx hb d_RM_heirs_78 rfl (lv_at hl 0 rfl) ?_
                      refine lv_aload_n hx hb d_RM_heirs_79 rfl (lv_at hl 0 rfl) ?_
                      refine va_get (D := D) (ci := 5) (v := .int (Sx.1 33 3)) (C := R_RM) (T := T_RM) (N := 13) hx hb ht i_RM hown hK hP 33 Xa_33 rfl 3 (by decide) (ht _ mF_RM_39) (fun _ h9 => h9) rfl d_RM_heirs_80 ?_
                      refine lv_iload_n hx hb d_RM_heirs_83 rfl (lv_at hl 1 rfl) ?_
                      refine lv_iload hx hb d_RM_heirs_84 (lv_at hl 5 rfl) ?_
                      refine va_calli (va_runV (As := [.int (Sx.1 33 3), .int a1, .int x5_2]) (rest := []) ⟨hx, hb, hml, hown, ht⟩ (c_RM_isFitting l D cA ad hI H.size (Sx.1 33 3) a1 x5_2 Sx (fun hn => hs (by rw [hn] at hf; exact hf.symm))) (cwV 3 ht (good_G (gV mM_RM_71 mI_RM_isFitting mV_RM_isFitting mN_RM mk_RM_isFitting)) rfl rfl rfl (by decide +kernel) ⟨Nat.le_of_ble_eq_true rfl, Nat.le_of_ble_eq_true rfl⟩) ⟨fun a U g mk q => ⟨q.1, q.2.1, q.2.2.1, va_K.moved (u := U) (U := U.calling g mk a) (Vm.Alike.refl U.vm) q.2.2.2⟩, va_recv hK hP (ci := 5) (q0 := 33) rfl Xa_33, fun U hU hW => ⟨rfl, by rw [hU], by rw [hU]; exact hP, va_K.moved hW.alike hK⟩⟩ rfl rfl hl.1 rfl (lv_room (Nat.le_of_ble_eq_true rfl)) d_RM_heirs_86 ⟨Nat.le_of_ble_eq_true rfl, Nat.le_of_ble_eq_true rfl⟩) hS (fun q _ h => hAS _ hS.1 q h) (fun q h => hAS _ hS.1 q h) (fun r2 _ t H locs ht9 hvm hw hB hz1 hk1 hS => ?_)
                      obtain ⟨hP, hK9⟩ := hB
                      rw [ht9] at hP
                      obtain ⟨hw, hz2⟩ := hw
                      rw [hw, Option.bind_some] at hf
                      refine lv_if_eq (tgt := 106) hx hb d_RM_heirs_89 (by decide) (fun c8 => ?_) (fun c8 => ?_)
                      · rw [if_pos c8] at hf
                        refine lv_iconst (v := 1) hx hb d_RM_heirs_106 (by decide) ?_
                        refine lv_goto (tgt := 111) hx hb d_RM_heirs_107 (by decide) ?_
                        refine lv_istore (lv' := [(4, .int (1 : Int32)), (0, .ref (ad 33)), (1, .int a1), (2, .int x2_1), (3, .int x3_1), (5, .int x5_2)]) hx hb d_RM_heirs_111 hl (by decide) rfl (fun ls hl => ?_)
                        refine lv_iinc (v := x5_2 + 1) (lv' := [(5, .int (x5_2 + 1)), (4, .int (1 : Int32)), (0, .ref (ad 33)), (1, .int a1), (2, .int x2_1), (3, .int x3_1)]) hx hb d_RM_heirs_113 hl (k := 5) rfl rfl (by decide) rfl (fun ls hl => ?_)
                        refine lv_goto (tgt := 64) hx hb d_RM_heirs_116 (by decide) ?_
                        exact ih (1 : Int32) (x5_2 + 1) _ _ _ hP hS (lv_sub hl [2, 3, 4, 5, 1, 0] rfl) (fun hn => hs (hf.symm.trans hn)) (fun v ho => hexit v (hf.symm.trans ho))
                      · rw [if_neg c8] at hf
                        refine lv_aload_n hx hb d_RM_heirs_92 rfl (lv_at hl 0 rfl) ?_
                        refine lv_aload_n hx hb d_RM_heirs_93 rfl (lv_at hl 0 rfl) ?_
                        refine va_get (D := D) (ci := 5) (v := .int (Sx.1 33 3)) (C := R_RM) (T := T_RM) (N := 13) hx hb ht i_RM hown hK hP 33 Xa_33 rfl 3 (by decide) (ht _ mF_RM_39) (fun _ h9 => h9) rfl d_RM_heirs_94 ?_
                        refine lv_iload_n hx hb d_RM_heirs_97 rfl (lv_at hl 3 rfl) ?_
                        refine lv_iload hx hb d_RM_heirs_98 (lv_at hl 5 rfl) ?_
                        refine va_calli (va_runV (As := [.int (Sx.1 33 3), .int x3_1, .int x5_2]) (rest := []) ⟨hx, hb, hml, hown, ht⟩ (c_RM_isFitting l D cA ad hI H.size (Sx.1 33 3) x3_1 x5_2 Sx (fun hn => hs (by rw [hn] at hf; exact hf.symm))) (cwV 3 ht (good_G (gV mM_RM_71 mI_RM_isFitting mV_RM_isFitting mN_RM mk_RM_isFitting)) rfl rfl rfl (by decide +kernel) ⟨Nat.le_of_ble_eq_true rfl, Nat.le_of_ble_eq_true rfl⟩) ⟨fun a U g mk q => ⟨q.1, q.2.1, q.2.2.1, va_K.moved (u := U) (U := U.calling g mk a) (Vm.Alike.refl U.vm) q.2.2.2⟩, va_recv hK hP (ci := 5) (q0 := 33) rfl Xa_33, fun U hU hW => ⟨rfl, by rw [hU], by rw [hU]; exact hP, va_K.moved hW.alike hK⟩⟩ rfl rfl hl.1 rfl (lv_room (Nat.le_of_ble_eq_true rfl)) d_RM_heirs_100 ⟨Nat.le_of_ble_eq_true rfl, Nat.le_of_ble_eq_true rfl⟩) hS (fun q _ h => hAS _ hS.1 q h) (fun q h => hAS _ hS.1 q h) (fun r3 _ t H locs ht9 hvm hw hB hz1 hk1 hS => ?_)
                        obtain ⟨hP, hK9⟩ := hB
                        rw [ht9] at hP
                        obtain ⟨hw, hz3⟩ := hw
                        rw [hw, Option.bind_some] at hf
                        refine lv_if_eq (tgt := 110) hx hb d_RM_heirs_103 (by decide) (fun c9 => ?_) (fun c9 => ?_)
                        · rw [if_pos c9] at hf
                          refine lv_iconst (v := 0) hx hb d_RM_heirs_110 (by decide) ?_
                          refine lv_istore (lv' := [(4, .int (0 : Int32)), (0, .ref (ad 33)), (1, .int a1), (2, .int x2_1), (3, .int x3_1), (5, .int x5_2)]) hx hb d_RM_heirs_111 hl (by decide) rfl (fun ls hl => ?_)
                          refine lv_iinc (v := x5_2 + 1) (lv' := [(5, .int (x5_2 + 1)), (4, .int (0 : Int32)), (0, .ref (ad 33)), (1, .int a1), (2, .int x2_1), (3, .int x3_1)]) hx hb d_RM_heirs_113 hl (k := 5) rfl rfl (by decide) rfl (fun ls hl => ?_)
                          refine lv_goto (tgt := 64) hx hb d_RM_heirs_116 (by decide) ?_
                          exact ih (0 : Int32) (x5_2 + 1) _ _ _ hP hS (lv_sub hl [2, 3, 4, 5, 1, 0] rfl) (fun hn => hs (hf.symm.trans hn)) (fun v ho => hexit v (hf.symm.trans ho))
                        · rw [if_neg c9] at hf
                          refine lv_iconst (v := 1) hx hb d_RM_heirs_106 (by decide) ?_
                          refine lv_goto (tgt := 111) hx hb d_RM_heirs_107 (by decide) ?_
                          refine lv_istore (lv' := [(4, .int (1 : Int32)), (0, .ref (ad 33)), (1, .int a1), (2, .int x2_1), (3, .int x3_1), (5, .int x5_2)]) hx hb d_RM_heirs_111 hl (by decide) rfl (fun ls hl => ?_)
                          refine lv_iinc (v := x5_2 + 1) (lv' := [(5, .int (x5_2 + 1)), (4, .int (1 : Int32)), (0, .ref (ad 33)), (1, .int a1), (2, .int x2_1), (3, .int x3_1)]) hx hb d_RM_heirs_113 hl (k := 5) rfl rfl (by decide) rfl (fun ls hl => ?_)
                          refine lv_goto (tgt := 64) hx hb d_RM_heirs_116 (by decide) ?_
                          exact ih (1 : Int32) (x5_2 + 1) _ _ _ hP hS (lv_sub hl [2, 3, 4, 5, 1, 0] rfl) (fun hn => hs (hf.symm.trans hn)) (fun v ho => hexit v (hf.symm.trans ho))
              refine lp64_2 FU (0 : Int32) (0 : Int32) _ _ _ hP hS (lv_sub hl [2, 3, 4, 5, 1, 0] rfl) (fun hn => ?_) (fun v10 hvv10 H locs ls hP hS hl => ?_)
              · rw [hn] at hf; exact hs hf.symm
              · rw [hvv10, Option.bind_some] at hf
                refine lv_iload_n hx hb d_RM_heirs_119 rfl (lv_at hl 2 rfl) ?_
                refine lv_iload hx hb d_RM_heirs_120 (lv_at hl 4 rfl) ?_
                refine lv_if_eq (tgt := 131) hx hb d_RM_heirs_122 (by decide) (fun c11 => ?_) (fun c11 => ?_)
                · rw [if_pos c11] at hf
                  refine lv_iconst (v := 0) hx hb d_RM_heirs_131 (by decide) ?_
                  refine lv_ior hx hb d_RM_heirs_132 ?_
                  refine lv_istore_n (lv' := [(2, .int (x2_1 ||| (0 : Int32))), (0, .ref (ad 33)), (1, .int a1), (3, .int x3_1), (4, .int v10)]) hx hb d_RM_heirs_133 rfl hl (by decide) rfl (fun ls hl => ?_)
                  refine lv_iinc (v := x3_1 + 1) (lv' := [(3, .int (x3_1 + 1)), (2, .int (x2_1 ||| (0 : Int32))), (0, .ref (ad 33)), (1, .int a1), (4, .int v10)]) hx hb d_RM_heirs_134 hl (k := 3) rfl rfl (by decide) rfl (fun ls hl => ?_)
                  refine lv_goto (tgt := 41) hx hb d_RM_heirs_137 (by decide) ?_
                  exact ih (x2_1 ||| (0 : Int32)) (x3_1 + 1) Sx _ _ _ hP hS (lv_sub hl [2, 3, 1, 0] rfl) (fun hn => hs (hf.symm.trans hn)) (fun v ho => hexit v (hf.symm.trans ho))
                · rw [if_neg c11] at hf
                  refine lv_iconst (v := 1) hx hb d_RM_heirs_125 (by decide) ?_
                  refine lv_iload_n hx hb d_RM_heirs_126 rfl (lv_at hl 3 rfl) ?_
                  refine lv_ishl hx hb d_RM_heirs_127 ?_
                  refine lv_goto (tgt := 132) hx hb d_RM_heirs_128 (by decide) ?_
                  refine lv_ior hx hb d_RM_heirs_132 ?_
                  refine lv_istore_n (lv' := [(2, .int (x2_1 ||| ((1 : Int32) <<< (x3_1 &&& 31)))), (0, .ref (ad 33)), (1, .int a1), (3, .int x3_1), (4, .int v10)]) hx hb d_RM_heirs_133 rfl hl (by decide) rfl (fun ls hl => ?_)
                  refine lv_iinc (v := x3_1 + 1) (lv' := [(3, .int (x3_1 + 1)), (2, .int (x2_1 ||| ((1 : Int32) <<< (x3_1 &&& 31)))), (0, .ref (ad 33)), (1, .int a1), (4, .int v10)]) hx hb d_RM_heirs_134 hl (k := 3) rfl rfl (by decide) rfl (fun ls hl => ?_)
                  refine lv_goto (tgt := 41) hx hb d_RM_heirs_137 (by decide) ?_
                  exact ih (x2_1 ||| ((1 : Int32) <<< (x3_1 &&& 31))) (x3_1 + 1) Sx _ _ _ hP hS (lv_sub hl [2, 3, 1, 0] rfl) (fun hn => hs (hf.symm.trans hn)) (fun v ho => hexit v (hf.symm.trans ho))
            · rw [if_neg c5] at hf
              refine lv_iconst (v := 1) hx hb d_RM_heirs_54 (by decide) ?_
              refine lv_goto (tgt := 59) hx hb d_RM_heirs_55 (by decide) ?_
              refine lv_istore (lv' := [(4, .int (1 : Int32)), (0, .ref (ad 33)), (1, .int a1), (2, .int x2_1), (3, .int x3_1)]) hx hb d_RM_heirs_59 hl (by decide) rfl (fun ls hl => ?_)
              refine lv_iconst (v := 0) hx hb d_RM_heirs_61 (by decide) ?_
              refine lv_istore (lv' := [(5, .int (0 : Int32)), (4, .int (1 : Int32)), (0, .ref (ad 33)), (1, .int a1), (2, .int x2_1), (3, .int x3_1)]) hx hb d_RM_heirs_62 hl (by decide) rfl (fun ls hl => ?_)
              have lp64_3 : ∀ (n : Nat) (x4_3 : Int32) (x5_3 : Int32) (H : Heap) (locs : List Loc) (ls : Array Slot), va_P D vwCl (X cA ad Sx) H → va_S A s.heap H locs → lv_has ls 6 [(0, .ref (ad 33)), (1, .int a1), (2, .int x2_1), (3, .int x3_1), (4, .int x4_3), (5, .int x5_3)] → f_RM_heirs_L64 a1 x2_1 x3_1 n x4_3 x5_3 Sx ≠ none →
                  (∀ v : Int32, f_RM_heirs_L64 a1 x2_1 x3_1 n x4_3 x5_3 Sx = some v → ∀ (H : Heap) (locs : List Loc) (ls : Array Slot), va_P D vwCl (X cA ad Sx) H → va_S A s.heap H locs → lv_has ls 6 [(0, .ref (ad 33)), (1, .int a1), (2, .int x2_1), (3, .int x3_1), (4, .int v)] → W p l e (headSpec w_RM_heirs ({ frames := 2, cells := 0, slots := 0, locals := 51 })).room s m ([.ref (ad 33), .int a1] : List Value).toArray below meth c H locs 0 0 Q (F0 m 119 ls [])) →
                  W p l e (headSpec w_RM_heirs ({ frames := 2, cells := 0, slots := 0, locals := 51 })).room s m ([.ref (ad 33), .int a1] : List Value).toArray below meth c H locs 0 0 Q (F0 m 64 ls []) := by
                intro n
                induction n with
                | zero => intro x4_3 x5_3 H locs ls hP hS hl hs; exact absurd rfl hs
                | succ n ih =>
                  intro x4_3 x5_3 H locs ls hP hS hl hs hexit
                  have hf := (f_RM_heirs_L64_s a1 x2_1 x3_1 n x4_3 x5_3 Sx).symm
                  refine lv_iload hx hb d_RM_heirs_64 (lv_at hl 5 rfl) ?_
                  refine lv_aload_n hx hb d_RM_heirs_66 rfl (lv_at hl 0 rfl) ?_
                  refine va_get (D := D) (ci := 5) (v := .int (Sx.1 33 4)) (C := R_RM) (T := T_RM) (N := 13) hx hb ht i_RM hown hK hP 33 Xa_33 rfl 4 (by decide) (ht _ mF_RM_42) (fun _ h9 => h9) rfl d_RM_heirs_67 ?_
                  refine lv_icmp_ge (tgt := 119) hx hb d_RM_heirs_70 (by decide) (fun c12 => ?_) (fun c12 => ?_)
                  · rw [if_pos c12] at hf
                    exact hexit _ hf.symm _ _ _ hP hS (lv_sub hl [0, 1, 2, 3, 4] rfl)
                  · rw [if_neg c12] at hf
                    refine lv_iload hx hb d_RM_heirs_73 (lv_at hl 4 rfl) ?_
                    refine lv_if_eq (tgt := 110) hx hb d_RM_heirs_75 (by decide) (fun c13 => ?_) (fun c13 => ?_)
                    · rw [if_pos c13] at hf
                      refine lv_iconst (v := 0) hx hb d_RM_heirs_110 (by decide) ?_
                      refine lv_istore (lv' := [(4, .int (0 : Int32)), (0, .ref (ad 33)), (1, .int a1), (2, .int x2_1), (3, .int x3_1), (5, .int x5_3)]) hx hb d_RM_heirs_111 hl (by decide) rfl (fun ls hl => ?_)
                      refine lv_iinc (v := x5_3 + 1) (lv' := [(5, .int (x5_3 + 1)), (4, .int (0 : Int32)), (0, .ref (ad 33)), (1, .int a1), (2, .int x2_1), (3, .int x3_1)]) hx hb d_RM_heirs_113 hl (k := 5) rfl rfl (by decide) rfl (fun ls hl => ?_)
                      refine lv_goto (tgt := 64) hx hb d_RM_heirs_116 (by decide) ?_
                      exact ih (0 : Int32) (x5_3 + 1) _ _ _ hP hS (lv_sub hl [2, 3, 4, 5, 1, 0] rfl) (fun hn => hs (hf.symm.trans hn)) (fun v ho => hexit v (hf.symm.trans ho))
                    · rw [if_neg c13] at hf
                      refine lv_aload_n hx hb d_RM_heirs_78 rfl (lv_at hl 0 rfl) ?_
                      refine lv_aload_n hx hb d_RM_heirs_79 rfl (lv_at hl 0 rfl) ?_
                      refine va_get (D := D) (ci := 5) (v := .int (Sx.1 33 3)) (C := R_RM) (T := T_RM) (N := 13) hx hb ht i_RM hown hK hP 33 Xa_33 rfl 3 (by decide) (ht _ mF_RM_39) (fun _ h9 => h9) rfl d_RM_heirs_80 ?_
                      refine lv_iload_n hx hb d_RM_heirs_83 rfl (lv_at hl 1 rfl) ?_
                      refine lv_iload hx hb d_RM_heirs_84 (lv_at hl 5 rfl) ?_
                      refine va_calli (va_runV (As := [.int (Sx.1 33 3), .int a1, .int x5_3]) (rest := []) ⟨hx, hb, hml, hown, ht⟩ (c_RM_isFitting l D cA ad hI H.size (Sx.1 33 3) a1 x5_3 Sx (fun hn => hs (by rw [hn] at hf; exact hf.symm))) (cwV 3 ht (good_G (gV mM_RM_71 mI_RM_isFitting mV_RM_isFitting mN_RM mk_RM_isFitting)) rfl rfl rfl (by decide +kernel) ⟨Nat.le_of_ble_eq_true rfl, Nat.le_of_ble_eq_true rfl⟩) ⟨fun a U g mk q => ⟨q.1, q.2.1, q.2.2.1, va_K.moved (u := U) (U := U.calling g mk a) (Vm.Alike.refl U.vm) q.2.2.2⟩, va_recv hK hP (ci := 5) (q0 := 33) rfl Xa_33, fun U hU hW => ⟨rfl, by rw [hU], by rw [hU]; exact hP, va_K.moved hW.alike hK⟩⟩ rfl rfl hl.1 rfl (lv_room (Nat.le_of_ble_eq_true rfl)) d_RM_heirs_86 ⟨Nat.le_of_ble_eq_true rfl, Nat.le_of_ble_eq_true rfl⟩) hS (fun q _ h => hAS _ hS.1 q h) (fun q h => hAS _ hS.1 q h) (fun r4 _ t H locs ht9 hvm hw hB hz1 hk1 hS => ?_)
                      obtain ⟨hP, hK9⟩ := hB
                      rw [ht9] at hP
                      obtain ⟨hw, hz4⟩ := hw
                      rw [hw, Option.bind_some] at hf
                      refine lv_if_eq (tgt := 106) hx hb d_RM_heirs_89 (by decide) (fun c14 => ?_) (fun c14 => ?_)
                      · rw [if_pos c14] at hf
                        refine lv_iconst (v := 1) hx hb d_RM_heirs_106 (by decide) ?_
                        refine lv_goto (tgt := 111) hx hb d_RM_heirs_107 (by decide) ?_
                        refine lv_istore (lv' := [(4, .int (1 : Int32)), (0, .ref (ad 33)), (1, .int a1), (2, .int x2_1), (3, .int x3_1), (5, .int x5_3)]) hx hb d_RM_heirs_111 hl (by decide) rfl (fun ls hl => ?_)
                        refine lv_iinc (v := x5_3 + 1) (lv' := [(5, .int (x5_3 + 1)), (4, .int (1 : Int32)), (0, .ref (ad 33)), (1, .int a1), (2, .int x2_1), (3, .int x3_1)]) hx hb d_RM_heirs_113 hl (k := 5) rfl rfl (by decide) rfl (fun ls hl => ?_)
                        refine lv_goto (tgt := 64) hx hb d_RM_heirs_116 (by decide) ?_
                        exact ih (1 : Int32) (x5_3 + 1) _ _ _ hP hS (lv_sub hl [2, 3, 4, 5, 1, 0] rfl) (fun hn => hs (hf.symm.trans hn)) (fun v ho => hexit v (hf.symm.trans ho))
                      · rw [if_neg c14] at hf
                        refine lv_aload_n hx hb d_RM_heirs_92 rfl (lv_at hl 0 rfl) ?_
                        refine lv_aload_n hx hb d_RM_heirs_93 rfl (lv_at hl 0 rfl) ?_
                        refine va_get (D := D) (ci := 5) (v := .int (Sx.1 33 3)) (C := R_RM) (T := T_RM) (N := 13) hx hb ht i_RM hown hK hP 33 Xa_33 rfl 3 (by decide) (ht _ mF_RM_39) (fun _ h9 => h9) rfl d_RM_heirs_94 ?_
                        refine lv_iload_n hx hb d_RM_heirs_97 rfl (lv_at hl 3 rfl) ?_
                        refine lv_iload hx hb d_RM_heirs_98 (lv_at hl 5 rfl) ?_
                        refine va_calli (va_runV (As := [.int (Sx.1 33 3), .int x3_1, .int x5_3]) (rest := []) ⟨hx, hb, hml, hown, ht⟩ (c_RM_isFitting l D cA ad hI H.size (Sx.1 33 3) x3_1 x5_3 Sx (fun hn => hs (by rw [hn] at hf; exact hf.symm))) (cwV 3 ht (good_G (gV mM_RM_71 mI_RM_isFitting mV_RM_isFitting mN_RM mk_RM_isFitting)) rfl rfl rfl (by decide +kernel) ⟨Nat.le_of_ble_eq_true rfl, Nat.le_of_ble_eq_true rfl⟩) ⟨fun a U g mk q => ⟨q.1, q.2.1, q.2.2.1, va_K.moved (u := U) (U := U.calling g mk a) (Vm.Alike.refl U.vm) q.2.2.2⟩, va_recv hK hP (ci := 5) (q0 := 33) rfl Xa_33, fun U hU hW => ⟨rfl, by rw [hU], by rw [hU]; exact hP, va_K.moved hW.alike hK⟩⟩ rfl rfl hl.1 rfl (lv_room (Nat.le_of_ble_eq_true rfl)) d_RM_heirs_100 ⟨Nat.le_of_ble_eq_true rfl, Nat.le_of_ble_eq_true rfl⟩) hS (fun q _ h => hAS _ hS.1 q h) (fun q h => hAS _ hS.1 q h) (fun r5 _ t H locs ht9 hvm hw hB hz1 hk1 hS => ?_)
                        obtain ⟨hP, hK9⟩ := hB
                        rw [ht9] at hP
                        obtain ⟨hw, hz5⟩ := hw
                        rw [hw, Option.bind_some] at hf
                        refine lv_if_eq (tgt := 110) hx hb d_RM_heirs_103 (by decide) (fun c15 => ?_) (fun c15 => ?_)
                        · rw [if_pos c15] at hf
                          refine lv_iconst (v := 0) hx hb d_RM_heirs_110 (by decide) ?_
                          refine lv_istore (lv' := [(4, .int (0 : Int32)), (0, .ref (ad 33)), (1, .int a1), (2, .int x2_1), (3, .int x3_1), (5, .int x5_3)]) hx hb d_RM_heirs_111 hl (by decide) rfl (fun ls hl => ?_)
                          refine lv_iinc (v := x5_3 + 1) (lv' := [(5, .int (x5_3 + 1)), (4, .int (0 : Int32)), (0, .ref (ad 33)), (1, .int a1), (2, .int x2_1), (3, .int x3_1)]) hx hb d_RM_heirs_113 hl (k := 5) rfl rfl (by decide) rfl (fun ls hl => ?_)
                          refine lv_goto (tgt := 64) hx hb d_RM_heirs_116 (by decide) ?_
                          exact ih (0 : Int32) (x5_3 + 1) _ _ _ hP hS (lv_sub hl [2, 3, 4, 5, 1, 0] rfl) (fun hn => hs (hf.symm.trans hn)) (fun v ho => hexit v (hf.symm.trans ho))
                        · rw [if_neg c15] at hf
                          refine lv_iconst (v := 1) hx hb d_RM_heirs_106 (by decide) ?_
                          refine lv_goto (tgt := 111) hx hb d_RM_heirs_107 (by decide) ?_
                          refine lv_istore (lv' := [(4, .int (1 : Int32)), (0, .ref (ad 33)), (1, .int a1), (2, .int x2_1), (3, .int x3_1), (5, .int x5_3)]) hx hb d_RM_heirs_111 hl (by decide) rfl (fun ls hl => ?_)
                          refine lv_iinc (v := x5_3 + 1) (lv' := [(5, .int (x5_3 + 1)), (4, .int (1 : Int32)), (0, .ref (ad 33)), (1, .int a1), (2, .int x2_1), (3, .int x3_1)]) hx hb d_RM_heirs_113 hl (k := 5) rfl rfl (by decide) rfl (fun ls hl => ?_)
                          refine lv_goto (tgt := 64) hx hb d_RM_heirs_116 (by decide) ?_
                          exact ih (1 : Int32) (x5_3 + 1) _ _ _ hP hS (lv_sub hl [2, 3, 4, 5, 1, 0] rfl) (fun hn => hs (hf.symm.trans hn)) (fun v ho => hexit v (hf.symm.trans ho))
              refine lp64_3 FU (1 : Int32) (0 : Int32) _ _ _ hP hS (lv_sub hl [2, 3, 4, 5, 1, 0] rfl) (fun hn => ?_) (fun v16 hvv16 H locs ls hP hS hl => ?_)
              · rw [hn] at hf; exact hs hf.symm
              · rw [hvv16, Option.bind_some] at hf
                refine lv_iload_n hx hb d_RM_heirs_119 rfl (lv_at hl 2 rfl) ?_
                refine lv_iload hx hb d_RM_heirs_120 (lv_at hl 4 rfl) ?_
                refine lv_if_eq (tgt := 131) hx hb d_RM_heirs_122 (by decide) (fun c17 => ?_) (fun c17 => ?_)
                · rw [if_pos c17] at hf
                  refine lv_iconst (v := 0) hx hb d_RM_heirs_131 (by decide) ?_
                  refine lv_ior hx hb d_RM_heirs_132 ?_
                  refine lv_istore_n (lv' := [(2, .int (x2_1 ||| (0 : Int32))), (0, .ref (ad 33)), (1, .int a1), (3, .int x3_1), (4, .int v16)]) hx hb d_RM_heirs_133 rfl hl (by decide) rfl (fun ls hl => ?_)
                  refine lv_iinc (v := x3_1 + 1) (lv' := [(3, .int (x3_1 + 1)), (2, .int (x2_1 ||| (0 : Int32))), (0, .ref (ad 33)), (1, .int a1), (4, .int v16)]) hx hb d_RM_heirs_134 hl (k := 3) rfl rfl (by decide) rfl (fun ls hl => ?_)
                  refine lv_goto (tgt := 41) hx hb d_RM_heirs_137 (by decide) ?_
                  exact ih (x2_1 ||| (0 : Int32)) (x3_1 + 1) Sx _ _ _ hP hS (lv_sub hl [2, 3, 1, 0] rfl) (fun hn => hs (hf.symm.trans hn)) (fun v ho => hexit v (hf.symm.trans ho))
                · rw [if_neg c17] at hf
                  refine lv_iconst (v := 1) hx hb d_RM_heirs_125 (by decide) ?_
                  refine lv_iload_n hx hb d_RM_heirs_126 rfl (lv_at hl 3 rfl) ?_
                  refine lv_ishl hx hb d_RM_heirs_127 ?_
                  refine lv_goto (tgt := 132) hx hb d_RM_heirs_128 (by decide) ?_
                  refine lv_ior hx hb d_RM_heirs_132 ?_
                  refine lv_istore_n (lv' := [(2, .int (x2_1 ||| ((1 : Int32) <<< (x3_1 &&& 31)))), (0, .ref (ad 33)), (1, .int a1), (3, .int x3_1), (4, .int v16)]) hx hb d_RM_heirs_133 rfl hl (by decide) rfl (fun ls hl => ?_)
                  refine lv_iinc (v := x3_1 + 1) (lv' := [(3, .int (x3_1 + 1)), (2, .int (x2_1 ||| ((1 : Int32) <<< (x3_1 &&& 31)))), (0, .ref (ad 33)), (1, .int a1), (4, .int v16)]) hx hb d_RM_heirs_134 hl (k := 3) rfl rfl (by decide) rfl (fun ls hl => ?_)
                  refine lv_goto (tgt := 41) hx hb d_RM_heirs_137 (by decide) ?_
                  exact ih (x2_1 ||| ((1 : Int32) <<< (x3_1 &&& 31))) (x3_1 + 1) Sx _ _ _ hP hS (lv_sub hl [2, 3, 1, 0] rfl) (fun hn => hs (hf.symm.trans hn)) (fun v ho => hexit v (hf.symm.trans ho))
      refine lp41_1 FU (0 : Int32) (0 : Int32) (wI S 33 0 (0 : Int32)) _ _ _ hP hS (lv_sub hl [2, 3, 1, 0] rfl) (fun hn => ?_) (fun v18 hvv18 H locs ls hP hS hl => ?_)
      · rw [hn] at hf; exact hs hf.symm
      · rw [hvv18, Option.bind_some] at hf
        refine lv_iload_n hx hb d_RM_heirs_140 rfl (lv_at hl 2 rfl) ?_
        rw [← hQ]
        exact W.iret (v := v18) hx hb hr (fun t ht hW => ⟨⟨v18, wI S 33 0 (0 : Int32), rfl, hf.symm, by rw [ht]; exact hP, va_K.moved hW.alike hK⟩, hS.F ht⟩) hS.2.2 d_RM_heirs_141
    · rw [if_pos c2] at hf
      refine lv_iconst (v := 2) hx hb d_RM_heirs_20 (by decide) ?_
      refine lv_goto (tgt := 25) hx hb d_RM_heirs_21 (by decide) ?_
      refine va_put (D := D) (ci := 5) (v := .int (2 : Int32)) (ty := .int) (C := R_RM) (T := T_RM) (N := 13) hx hb ht i_RM t_RM t_RM_ok n_RM hown hK hP (X_D hI hAd) hS 33 Xa_33 rfl 0 (by decide) (ht _ mF_RM_36) (fun _ h9 => h9) rfl (by decide +kernel) rfl rfl (Nat.le_of_ble_eq_true rfl) d_RM_heirs_25 (fun H locs hP _ hS => ?_)
      replace hP := X_putI (by decide) hP rfl
      refine lv_aload_n hx hb d_RM_heirs_28 rfl (lv_at hl 0 rfl) ?_
      refine va_get (D := D) (ci := 5) (v := .int (2 : Int32)) (C := R_RM) (T := T_RM) (N := 13) hx hb ht i_RM hown hK hP 33 Xa_33 rfl 0 (by decide) (ht _ mF_RM_36) (fun _ h9 => h9) rfl d_RM_heirs_29 ?_
      refine lv_if_le (tgt := 37) hx hb d_RM_heirs_32 (by decide) (fun c19 => absurd c19 (by decide)) (fun c19 => ?_)
      refine lv_iconst (v := 0) hx hb d_RM_heirs_35 (by decide) ?_
      rw [← hQ]
      exact W.iret (v := (0 : Int32)) hx hb hr (fun t ht hW => ⟨⟨(0 : Int32), wI S 33 0 (2 : Int32), rfl, hf.symm, by rw [ht]; exact hP, va_K.moved hW.alike hK⟩, hS.F ht⟩) hS.2.2 d_RM_heirs_36
  · rw [if_neg c1] at hf
    refine lv_iconst (v := 1) hx hb d_RM_heirs_9 (by decide) ?_
    refine lv_goto (tgt := 25) hx hb d_RM_heirs_10 (by decide) ?_
    refine va_put (D := D) (ci := 5) (v := .int (1 : Int32)) (ty := .int) (C := R_RM) (T := T_RM) (N := 13) hx hb ht i_RM t_RM t_RM_ok n_RM hown hK hP (X_D hI hAd) hS 33 Xa_33 rfl 0 (by decide) (ht _ mF_RM_36) (fun _ h9 => h9) rfl (by decide +kernel) rfl rfl (Nat.le_of_ble_eq_true rfl) d_RM_heirs_25 (fun H locs hP _ hS => ?_)
    replace hP := X_putI (by decide) hP rfl
    refine lv_aload_n hx hb d_RM_heirs_28 rfl (lv_at hl 0 rfl) ?_
    refine va_get (D := D) (ci := 5) (v := .int (1 : Int32)) (C := R_RM) (T := T_RM) (N := 13) hx hb ht i_RM hown hK hP 33 Xa_33 rfl 0 (by decide) (ht _ mF_RM_36) (fun _ h9 => h9) rfl d_RM_heirs_29 ?_
    refine lv_if_le (tgt := 37) hx hb d_RM_heirs_32 (by decide) (fun c20 => absurd c20 (by decide)) (fun c20 => ?_)
    refine lv_iconst (v := 0) hx hb d_RM_heirs_35 (by decide) ?_
    rw [← hQ]
    exact W.iret (v := (0 : Int32)) hx hb hr (fun t ht hW => ⟨⟨(0 : Int32), wI S 33 0 (1 : Int32), rfl, hf.symm, by rw [ht]; exact hP, va_K.moved hW.alike hK⟩, hS.F ht⟩) hS.2.2 d_RM_heirs_36
