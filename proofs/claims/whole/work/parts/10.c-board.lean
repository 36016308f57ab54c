set_option maxHeartbeats 4000000 in
set_option maxRecDepth 100000 in
theorem c_Board_isWithin (l : Launch) (D : va_G) (cA : Nat → ClassId) (ad : Nat → Nat) (hI : InjA ad) (sz : Nat) (a0 : Int64) (a2 : Int64) (S : SS) (hs : f_Board_isWithin a0 a2 S ≠ none) : Met l y_Board_isWithin w_Board_isWithin ({ frames := 0, cells := 0, slots := 0, locals := 0 }) (va_Pc [.long a0, .long a2] (fun U => U.heap.size = sz ∧ va_P D vwCl (X cA ad S) U.heap ∧ va_K D vwCl (tysX cA) U)) (va_Qi (fun (r : Int32) (_ : Unit) => f_Board_isWithin a0 a2 S = some r ∧ (r = 0 ∨ r = 1)) (fun (_ : Unit) t => va_P D vwCl (X cA ad S) t.heap ∧ va_K D vwCl (tysX cA) t) (AS ad sz)) 0 0 (AS ad sz) := by
  refine Met.ofW (cc := b_Board_isWithin) (maxL := 4) (ret := (some .boolean)) (by decide) rfl ?_
  intro p e s m args below meth c s₁ B hml hv
  obtain ⟨rfl, hsz, hP, hK⟩ := hv
  have hx := B.exec
  have hb := B.bytes
  have hr := B.returns
  have hts := atoms_spec (ws := w_Board_isWithin) B.pre
  have ht := fun w h => hts w (List.mem_cons_of_mem _ h)
  have hown : s.vm.findClass R_Board = some m.cls := findClass_of_methodNamed B.named
  have hlocks := B.notSynchronized
  subst hsz
  have hAd : ∀ q, q < NP → AS ad s.heap.size (ad q) := fun q h => Or.inl ⟨q, h, rfl⟩
  have hA : ∀ q : Nat, s.heap.size ≤ q → AS ad s.heap.size q := fun q h => Or.inr h
  have hAS : ∀ z : Nat, s.heap.size ≤ z → ∀ q : Nat, AS ad z q → AS ad s.heap.size q := fun z h q hq => hq.elim Or.inl (fun g => Or.inr (Nat.le_trans h g))
  generalize hAe : AS ad s.heap.size = A at hAd hA hAS ⊢
  have hS : va_S A s.heap s.heap [] := va_S.rf
  have hl := lv_entry ([.long a0, .long a2]) (n := 4) (Nat.le_of_ble_eq_true rfl)
  rw [lg_entry_eq]
  generalize (lg_sl ([.long a0, .long a2]) ++ List.replicate (4 - (lg_sl ([.long a0, .long a2])).length) Slot.unset).toArray = ls at hl ⊢
  have hl : lv_has ls 4 [(0, .long a0), (2, .long a2)] := hl
  have hf := (f_Board_isWithin_s a0 a2 S).symm
  generalize hQ : MQ below _ _ s _ _ _ = Q
  refine lv_lload_n hx hb d_Board_isWithin_0 rfl (lv_at hl 0 rfl) ?_
  refine lv_lload_n hx hb d_Board_isWithin_1 rfl (lv_at hl 1 rfl) ?_
  refine lv_ldc2 (v := (-1)) hx hb hown (ht _ mC_Board_94) d_Board_isWithin_2 ?_
  refine lv_lxor hx hb d_Board_isWithin_5 ?_
  refine lv_land hx hb d_Board_isWithin_6 ?_
  refine lv_lconst (v := 0) hx hb d_Board_isWithin_7 (by decide) ?_
  refine W.lcmp hx hb d_Board_isWithin_8 ?_
  refine lv_if_ne (tgt := 16) hx hb d_Board_isWithin_9 (by decide) (fun c1 => ?_) (fun c1 => ?_)
  · rw [if_neg c1] at hf
    refine lv_iconst (v := 0) hx hb d_Board_isWithin_16 (by decide) ?_
    rw [← hQ]
    have hz : (0 : Int32) = 0 ∨ (0 : Int32) = 1 := Or.inl rfl
    exact W.zret (v := (0 : Int32)) hx hb hr (zb_n hz) (fun t ht hW => ⟨⟨(0 : Int32), (), rfl, ⟨hf.symm, hz⟩, by rw [ht]; exact hP, va_K.moved hW.alike hK⟩, hS.F ht⟩) hS.2.2 d_Board_isWithin_17
  · rw [if_pos c1] at hf
    refine lv_iconst (v := 1) hx hb d_Board_isWithin_12 (by decide) ?_
    refine lv_goto (tgt := 17) hx hb d_Board_isWithin_13 (by decide) ?_
    rw [← hQ]
    have hz : (1 : Int32) = 0 ∨ (1 : Int32) = 1 := Or.inr rfl
    exact W.zret (v := (1 : Int32)) hx hb hr (zb_n hz) (fun t ht hW => ⟨⟨(1 : Int32), (), rfl, ⟨hf.symm, hz⟩, by rw [ht]; exact hP, va_K.moved hW.alike hK⟩, hS.F ht⟩) hS.2.2 d_Board_isWithin_17
set_option maxHeartbeats 4000000 in
set_option maxRecDepth 100000 in
theorem c_Board_doorsFitted (l : Launch) (D : va_G) (cA : Nat → ClassId) (ad : Nat → Nat) (hI : InjA ad) (sz : Nat) (a1 : Int64) (S : SS) (hs : f_Board_doorsFitted a1 S ≠ none) : Met l y_Board_doorsFitted w_Board_doorsFitted ({ frames := 1, cells := 0, slots := 0, locals := 23 }) (va_Pc [.ref (ad 2), .long a1] (fun U => U.heap.size = sz ∧ va_P D vwCl (X cA ad S) U.heap ∧ va_K D vwCl (tysX cA) U)) (va_Qi (fun (r : Int32) (_ : Unit) => f_Board_doorsFitted a1 S = some r) (fun (_ : Unit) t => va_P D vwCl (X cA ad S) t.heap ∧ va_K D vwCl (tysX cA) t) (AS ad sz)) 0 0 (AS ad sz) := by
  refine Met.ofW (cc := b_Board_doorsFitted) (maxL := 5) (ret := (some .int)) (by decide) rfl ?_
  intro p e s m args below meth c s₁ B hml hv
  obtain ⟨rfl, hsz, hP, hK⟩ := hv
  have hx := B.exec
  have hb := B.bytes
  have hr := B.returns
  have hts := atoms_spec (ws := w_Board_doorsFitted) B.pre
  have ht := fun w h => hts w (List.mem_cons_of_mem _ h)
  have hown : s.vm.findClass R_Board = some m.cls := findClass_of_methodNamed B.named
  have hlocks := B.notSynchronized
  subst hsz
  have hAd : ∀ q, q < NP → AS ad s.heap.size (ad q) := fun q h => Or.inl ⟨q, h, rfl⟩
  have hA : ∀ q : Nat, s.heap.size ≤ q → AS ad s.heap.size q := fun q h => Or.inr h
  have hAS : ∀ z : Nat, s.heap.size ≤ z → ∀ q : Nat, AS ad z q → AS ad s.heap.size q := fun z h q hq => hq.elim Or.inl (fun g => Or.inr (Nat.le_trans h g))
  generalize hAe : AS ad s.heap.size = A at hAd hA hAS ⊢
  have hS : va_S A s.heap s.heap [] := va_S.rf
  have hl := lv_entry ([.ref (ad 2), .long a1]) (n := 5) (Nat.le_of_ble_eq_true rfl)
  rw [lg_entry_eq]
  generalize (lg_sl ([.ref (ad 2), .long a1]) ++ List.replicate (5 - (lg_sl ([.ref (ad 2), .long a1])).length) Slot.unset).toArray = ls at hl ⊢
  have hl : lv_has ls 5 [(0, .ref (ad 2)), (1, .long a1)] := hl
  have hf := (f_Board_doorsFitted_s a1 S).symm
  generalize hQ : MQ below _ _ s _ _ _ = Q
  refine lv_iconst (v := 0) hx hb d_Board_doorsFitted_0 (by decide) ?_
  refine lv_istore_n (lv' := [(3, .int (0 : Int32)), (0, .ref (ad 2)), (1, .long a1)]) hx hb d_Board_doorsFitted_1 rfl hl (by decide) rfl (fun ls hl => ?_)
  refine lv_iconst (v := 0) hx hb d_Board_doorsFitted_2 (by decide) ?_
  refine lv_istore (lv' := [(4, .int (0 : Int32)), (3, .int (0 : Int32)), (0, .ref (ad 2)), (1, .long a1)]) hx hb d_Board_doorsFitted_3 hl (by decide) rfl (fun ls hl => ?_)
  have lp5_1 : ∀ (n : Nat) (x3_1 : Int32) (x4_1 : Int32) (H : Heap) (locs : List Loc) (ls : Array Slot), va_P D vwCl (X cA ad S) H → va_S A s.heap H locs → lv_has ls 5 [(0, .ref (ad 2)), (1, .long a1), (3, .int x3_1), (4, .int x4_1)] → f_Board_doorsFitted_L5 a1 n x3_1 x4_1 S ≠ none →
      (∀ v : Int32, f_Board_doorsFitted_L5 a1 n x3_1 x4_1 S = some v → ∀ (H : Heap) (locs : List Loc) (ls : Array Slot), va_P D vwCl (X cA ad S) H → va_S A s.heap H locs → lv_has ls 5 [(0, .ref (ad 2)), (1, .long a1), (3, .int v)] → W p l e (headSpec w_Board_doorsFitted ({ frames := 1, cells := 0, slots := 0, locals := 23 })).room s m ([.ref (ad 2), .long a1] : List Value).toArray below meth c H locs 0 0 Q (F0 m 46 ls [])) →
      W p l e (headSpec w_Board_doorsFitted ({ frames := 1, cells := 0, slots := 0, locals := 23 })).room s m ([.ref (ad 2), .long a1] : List Value).toArray below meth c H locs 0 0 Q (F0 m 5 ls []) := by
    intro n
    induction n with
    | zero => intro x3_1 x4_1 H locs ls hP hS hl hs; exact absurd rfl hs
    | succ n ih =>
      intro x3_1 x4_1 H locs ls hP hS hl hs hexit
      have hf := (f_Board_doorsFitted_L5_s a1 n x3_1 x4_1 S).symm
      refine lv_iload hx hb d_Board_doorsFitted_5 (lv_at hl 3 rfl) ?_
      refine lv_aload_n hx hb d_Board_doorsFitted_7 rfl (lv_at hl 0 rfl) ?_
      refine va_get (D := D) (ci := 2) (v := .int (S.1 2 2)) (C := R_Board) (T := T_Board) (N := 7) hx hb ht i_Board hown hK hP 2 Xa_2 rfl 2 (by decide) (ht _ mF_Board_33) (fun _ h9 => h9) rfl d_Board_doorsFitted_8 ?_
      refine lv_icmp_ge (tgt := 46) hx hb d_Board_doorsFitted_11 (by decide) (fun c1 => ?_) (fun c1 => ?_)
      · rw [if_pos c1] at hf
        exact hexit _ hf.symm _ _ _ hP hS (lv_sub hl [0, 1, 2] rfl)
      · rw [if_neg c1] at hf
        refine lv_lload_n hx hb d_Board_doorsFitted_14 rfl (lv_at hl 1 rfl) ?_
        refine lv_aload_n hx hb d_Board_doorsFitted_15 rfl (lv_at hl 0 rfl) ?_
        refine va_get (D := D) (ci := 2) (v := .ref (ad 8)) (C := R_Board) (T := T_Board) (N := 7) hx hb ht i_Board hown hK hP 2 Xa_2 rfl 6 (by decide) (ht _ mF_Board_26) (fun _ h9 => h9) rfl d_Board_doorsFitted_16 ?_
        refine lv_aload_n hx hb d_Board_doorsFitted_19 rfl (lv_at hl 0 rfl) ?_
        refine va_get (D := D) (ci := 2) (v := .int (S.1 2 1)) (C := R_Board) (T := T_Board) (N := 7) hx hb ht i_Board hown hK hP 2 Xa_2 rfl 1 (by decide) (ht _ mF_Board_45) (fun _ h9 => h9) rfl d_Board_doorsFitted_20 ?_
        by_cases b2 : oob (S.1 2 1) 9
        · rw [if_pos b2] at hf; exact absurd hf.symm hs
        rw [if_neg b2] at hf
        refine gz_aald hx hb hK hP 8 3 Xa_8 rfl b2 d_Board_doorsFitted_23 ?_
        rw [X_row b2]
        refine lv_iload hx hb d_Board_doorsFitted_24 (lv_at hl 3 rfl) ?_
        by_cases b3 : oob x4_1 6
        · rw [if_pos b3] at hf; exact absurd hf.symm hs
        rw [if_neg b3] at hf
        refine va_lald (f := S.2 (18 + (S.1 2 1).toNatClampNeg)) hx hb hK hP (18 + (S.1 2 1).toNatClampNeg) 1 (X_rowat8 b2) rfl b3 d_Board_doorsFitted_26 ?_
        refine va_calli (va_runS (As := [.long a1, .long (S.2 (18 + (S.1 2 1).toNatClampNeg) x4_1.toNatClampNeg)]) (rest := []) ⟨hx, hb, hml, hown, ht⟩ (c_Board_isWithin l D cA ad hI H.size a1 (S.2 (18 + (S.1 2 1).toNatClampNeg) x4_1.toNatClampNeg) S (fun hn => hs (by rw [hn] at hf; exact hf.symm))) (va_cwS 2 ht (good_G (gS mM_Board_48 mS_Board_isWithin mN_Board mk_Board_isWithin)) rfl rfl rfl (by decide +kernel) ⟨Nat.le_of_ble_eq_true rfl, Nat.le_of_ble_eq_true rfl⟩) ⟨fun a U g mk q => ⟨q.1, q.2.1, q.2.2.1, va_K.moved (u := U) (U := U.calling g mk a) (Vm.Alike.refl U.vm) q.2.2.2⟩, fun U hU hW => ⟨rfl, by rw [hU], by rw [hU]; exact hP, va_K.moved hW.alike hK⟩⟩ rfl rfl hl.1 rfl (lv_room (Nat.le_of_ble_eq_true rfl)) d_Board_doorsFitted_27 ⟨Nat.le_of_ble_eq_true rfl, Nat.le_of_ble_eq_true rfl⟩) hS (fun q _ h => hAS _ hS.1 q h) (fun q h => hAS _ hS.1 q h) (fun r1 _ t H locs ht9 hvm hw hB hz1 hk1 hS => ?_)
        obtain ⟨hP, hK9⟩ := hB
        rw [ht9] at hP
        obtain ⟨hw, hz1⟩ := hw
        rw [hw, Option.bind_some] at hf
        refine lv_if_eq (tgt := 40) hx hb d_Board_doorsFitted_30 (by decide) (fun c4 => ?_) (fun c4 => ?_)
        · rw [if_pos c4] at hf
          refine lv_iinc (v := x4_1 + 1) (lv' := [(4, .int (x4_1 + 1)), (0, .ref (ad 2)), (1, .long a1), (3, .int x3_1)]) hx hb d_Board_doorsFitted_40 hl (k := 3) rfl rfl (by decide) rfl (fun ls hl => ?_)
          refine lv_goto (tgt := 5) hx hb d_Board_doorsFitted_43 (by decide) ?_
          exact ih x3_1 (x4_1 + 1) _ _ _ hP hS (lv_sub hl [1, 2, 3, 0] rfl) (fun hn => hs (hf.symm.trans hn)) (fun v ho => hexit v (hf.symm.trans ho))
        · rw [if_neg c4] at hf
          refine lv_iload_n hx hb d_Board_doorsFitted_33 rfl (lv_at hl 2 rfl) ?_
          refine lv_iconst (v := 1) hx hb d_Board_doorsFitted_34 (by decide) ?_
          refine lv_iload hx hb d_Board_doorsFitted_35 (lv_at hl 3 rfl) ?_
          refine lv_ishl hx hb d_Board_doorsFitted_37 ?_
          refine lv_ior hx hb d_Board_doorsFitted_38 ?_
          refine lv_istore_n (lv' := [(3, .int (x3_1 ||| ((1 : Int32) <<< (x4_1 &&& 31)))), (0, .ref (ad 2)), (1, .long a1), (4, .int x4_1)]) hx hb d_Board_doorsFitted_39 rfl hl (by decide) rfl (fun ls hl => ?_)
          refine lv_iinc (v := x4_1 + 1) (lv' := [(4, .int (x4_1 + 1)), (3, .int (x3_1 ||| ((1 : Int32) <<< (x4_1 &&& 31)))), (0, .ref (ad 2)), (1, .long a1)]) hx hb d_Board_doorsFitted_40 hl (k := 3) rfl rfl (by decide) rfl (fun ls hl => ?_)
          refine lv_goto (tgt := 5) hx hb d_Board_doorsFitted_43 (by decide) ?_
          exact ih (x3_1 ||| ((1 : Int32) <<< (x4_1 &&& 31))) (x4_1 + 1) _ _ _ hP hS (lv_sub hl [2, 3, 1, 0] rfl) (fun hn => hs (hf.symm.trans hn)) (fun v ho => hexit v (hf.symm.trans ho))
  refine lp5_1 FU (0 : Int32) (0 : Int32) _ _ _ hP hS (lv_sub hl [2, 3, 1, 0] rfl) (fun hn => ?_) (fun v5 hvv5 H locs ls hP hS hl => ?_)
  · rw [hn] at hf; exact hs hf.symm
  · rw [hvv5, Option.bind_some] at hf
    refine lv_iload_n hx hb d_Board_doorsFitted_46 rfl (lv_at hl 2 rfl) ?_
    rw [← hQ]
    exact W.iret (v := v5) hx hb hr (fun t ht hW => ⟨⟨v5, (), rfl, hf.symm, by rw [ht]; exact hP, va_K.moved hW.alike hK⟩, hS.F ht⟩) hS.2.2 d_Board_doorsFitted_47
set_option maxHeartbeats 4000000 in
set_option maxRecDepth 100000 in
theorem c_Board_doorsOf (l : Launch) (D : va_G) (cA : Nat → ClassId) (ad : Nat → Nat) (hI : InjA ad) (sz : Nat) (a1 : Int32) (S : SS) (hs : f_Board_doorsOf a1 S ≠ none) : Met l y_Board_doorsOf w_Board_doorsOf ({ frames := 2, cells := 0, slots := 0, locals := 47 }) (va_Pc [.ref (ad 2), .int a1] (fun U => U.heap.size = sz ∧ va_P D vwCl (X cA ad S) U.heap ∧ va_K D vwCl (tysX cA) U)) (va_Qi (fun (r : Int32) (_ : Unit) => f_Board_doorsOf a1 S = some r) (fun (_ : Unit) t => va_P D vwCl (X cA ad S) t.heap ∧ va_K D vwCl (tysX cA) t) (AS ad sz)) 0 0 (AS ad sz) := by
  refine Met.ofW (cc := b_Board_doorsOf) (maxL := 2) (ret := (some .int)) (by decide) rfl ?_
  intro p e s m args below meth c s₁ B hml hv
  obtain ⟨rfl, hsz, hP, hK⟩ := hv
  have hx := B.exec
  have hb := B.bytes
  have hr := B.returns
  have hts := atoms_spec (ws := w_Board_doorsOf) B.pre
  have ht := fun w h => hts w (List.mem_cons_of_mem _ h)
  have hown : s.vm.findClass R_Board = some m.cls := findClass_of_methodNamed B.named
  have hlocks := B.notSynchronized
  subst hsz
  have hAd : ∀ q, q < NP → AS ad s.heap.size (ad q) := fun q h => Or.inl ⟨q, h, rfl⟩
  have hA : ∀ q : Nat, s.heap.size ≤ q → AS ad s.heap.size q := fun q h => Or.inr h
  have hAS : ∀ z : Nat, s.heap.size ≤ z → ∀ q : Nat, AS ad z q → AS ad s.heap.size q := fun z h q hq => hq.elim Or.inl (fun g => Or.inr (Nat.le_trans h g))
  generalize hAe : AS ad s.heap.size = A at hAd hA hAS ⊢
  have hS : va_S A s.heap s.heap [] := va_S.rf
  have hl := lv_entry ([.ref (ad 2), .int a1]) (n := 2) (Nat.le_of_ble_eq_true rfl)
  rw [lg_entry_eq]
  generalize (lg_sl ([.ref (ad 2), .int a1]) ++ List.replicate (2 - (lg_sl ([.ref (ad 2), .int a1])).length) Slot.unset).toArray = ls at hl ⊢
  have hl : lv_has ls 2 [(0, .ref (ad 2)), (1, .int a1)] := hl
  have hf := (f_Board_doorsOf_s a1 S).symm
  generalize hQ : MQ below _ _ s _ _ _ = Q
  refine lv_aload_n hx hb d_Board_doorsOf_0 rfl (lv_at hl 0 rfl) ?_
  refine lv_aload_n hx hb d_Board_doorsOf_1 rfl (lv_at hl 0 rfl) ?_
  refine va_get (D := D) (ci := 2) (v := .ref (ad 7)) (C := R_Board) (T := T_Board) (N := 7) hx hb ht i_Board hown hK hP 2 Xa_2 rfl 5 (by decide) (ht _ mF_Board_20) (fun _ h9 => h9) rfl d_Board_doorsOf_2 ?_
  refine lv_iload_n hx hb d_Board_doorsOf_5 rfl (lv_at hl 1 rfl) ?_
  by_cases b1 : oob a1 8
  · rw [if_pos b1] at hf; exact absurd hf.symm hs
  rw [if_neg b1] at hf
  refine va_lald (f := S.2 7) hx hb hK hP 7 1 Xa_7 rfl b1 d_Board_doorsOf_6 ?_
  refine va_calli (va_runV (As := [.long (S.2 7 a1.toNatClampNeg)]) (rest := []) ⟨hx, hb, hml, hown, ht⟩ (c_Board_doorsFitted l D cA ad hI s.heap.size (S.2 7 a1.toNatClampNeg) S (fun hn => hs (by rw [hn] at hf; exact hf.symm))) (cwV 1 ht (good_G (gV mM_Board_41 mI_Board_doorsFitted mV_Board_doorsFitted mN_Board mk_Board_doorsFitted)) rfl rfl rfl (by decide +kernel) ⟨Nat.le_of_ble_eq_true rfl, Nat.le_of_ble_eq_true rfl⟩) ⟨fun a U g mk q => ⟨q.1, q.2.1, q.2.2.1, va_K.moved (u := U) (U := U.calling g mk a) (Vm.Alike.refl U.vm) q.2.2.2⟩, va_recv hK hP (ci := 2) (q0 := 2) rfl Xa_2, fun U hU hW => ⟨rfl, by rw [hU], by rw [hU]; exact hP, va_K.moved hW.alike hK⟩⟩ rfl rfl hl.1 rfl (lv_room (Nat.le_of_ble_eq_true rfl)) d_Board_doorsOf_7 ⟨Nat.le_of_ble_eq_true rfl, Nat.le_of_ble_eq_true rfl⟩) hS (fun q _ h => hAS _ hS.1 q h) (fun q h => hAS _ hS.1 q h) (fun r1 _ t H locs ht9 hvm hw hB hz1 hk1 hS => ?_)
  obtain ⟨hP, hK9⟩ := hB
  rw [ht9] at hP
  rw [hw, Option.bind_some] at hf
  rw [← hQ]
  exact W.iret (v := r1) hx hb hr (fun t ht hW => ⟨⟨r1, (), rfl, hf.symm, by rw [ht]; exact hP, va_K.moved hW.alike hK⟩, hS.F ht⟩) hS.2.2 d_Board_doorsOf_10
set_option maxHeartbeats 4000000 in
set_option maxRecDepth 100000 in
theorem c_JI_bitCount (l : Launch) (D : va_G) (cA : Nat → ClassId) (ad : Nat → Nat) (hI : InjA ad) (sz : Nat) (a0 : Int32) (S : SS) (hs : f_JI_bitCount a0 S ≠ none) : Met l y_JI_bitCount w_JI_bitCount ({ frames := 0, cells := 0, slots := 0, locals := 0 }) (va_Pc [.int a0] (fun U => U.heap.size = sz ∧ va_P D vwCl (X cA ad S) U.heap ∧ va_K D vwCl (tysX cA) U)) (va_Qi (fun (r : Int32) (_ : Unit) => f_JI_bitCount a0 S = some r) (fun (_ : Unit) t => va_P D vwCl (X cA ad S) t.heap ∧ va_K D vwCl (tysX cA) t) (AS ad sz)) 0 0 (AS ad sz) := by
  refine Met.ofW (cc := b_JI_bitCount) (maxL := 1) (ret := (some .int)) (by decide) rfl ?_
  intro p e s m args below meth c s₁ B hml hv
  obtain ⟨rfl, hsz, hP, hK⟩ := hv
  have hx := B.exec
  have hb := B.bytes
  have hr := B.returns
  have hts := atoms_spec (ws := w_JI_bitCount) B.pre
  have ht := fun w h => hts w (List.mem_cons_of_mem _ h)
  have hown : s.vm.findClass R_JI = some m.cls := findClass_of_methodNamed B.named
  have hlocks := B.notSynchronized
  subst hsz
  have hAd : ∀ q, q < NP → AS ad s.heap.size (ad q) := fun q h => Or.inl ⟨q, h, rfl⟩
  have hA : ∀ q : Nat, s.heap.size ≤ q → AS ad s.heap.size q := fun q h => Or.inr h
  have hAS : ∀ z : Nat, s.heap.size ≤ z → ∀ q : Nat, AS ad z q → AS ad s.heap.size q := fun z h q hq => hq.elim Or.inl (fun g => Or.inr (Nat.le_trans h g))
  generalize hAe : AS ad s.heap.size = A at hAd hA hAS ⊢
  have hS : va_S A s.heap s.heap [] := va_S.rf
  have hl := lv_entry ([.int a0]) (n := 1) (Nat.le_of_ble_eq_true rfl)
  rw [lg_entry_eq]
  generalize (lg_sl ([.int a0]) ++ List.replicate (1 - (lg_sl ([.int a0])).length) Slot.unset).toArray = ls at hl ⊢
  have hl : lv_has ls 1 [(0, .int a0)] := hl
  have hf := (f_JI_bitCount_s a0 S).symm
  generalize hQ : MQ below _ _ s _ _ _ = Q
  refine lv_iload_n hx hb d_JI_bitCount_0 rfl (lv_at hl 0 rfl) ?_
  refine lv_iload_n hx hb d_JI_bitCount_1 rfl (lv_at hl 0 rfl) ?_
  refine lv_iconst (v := 1) hx hb d_JI_bitCount_2 (by decide) ?_
  refine lv_iushr hx hb d_JI_bitCount_3 rfl ?_
  refine lv_ldcw (v := 1431655765) hx hb hown (ht _ mC_JI_265) d_JI_bitCount_4 ?_
  refine lv_iand hx hb d_JI_bitCount_7 ?_
  refine lv_isub hx hb d_JI_bitCount_8 ?_
  refine lv_istore_n (lv' := [(0, .int (a0 - (((a0.toUInt32 >>> ((1 : Int32).toUInt32 &&& Int32.toUInt32 31)).toInt32) &&& (1431655765 : Int32))))]) hx hb d_JI_bitCount_9 rfl hl (by decide) rfl (fun ls hl => ?_)
  refine lv_iload_n hx hb d_JI_bitCount_10 rfl (lv_at hl 0 rfl) ?_
  refine lv_ldcw (v := 858993459) hx hb hown (ht _ mC_JI_266) d_JI_bitCount_11 ?_
  refine lv_iand hx hb d_JI_bitCount_14 ?_
  refine lv_iload_n hx hb d_JI_bitCount_15 rfl (lv_at hl 0 rfl) ?_
  refine lv_iconst (v := 2) hx hb d_JI_bitCount_16 (by decide) ?_
  refine lv_iushr hx hb d_JI_bitCount_17 rfl ?_
  refine lv_ldcw (v := 858993459) hx hb hown (ht _ mC_JI_266) d_JI_bitCount_18 ?_
  refine lv_iand hx hb d_JI_bitCount_21 ?_
  refine lv_iadd hx hb d_JI_bitCount_22 ?_
  refine lv_istore_n (lv' := [(0, .int (((a0 - (((a0.toUInt32 >>> ((1 : Int32).toUInt32 &&& Int32.toUInt32 31)).toInt32) &&& (1431655765 : Int32))) &&& (858993459 : Int32)) + ((((a0 - (((a0.toUInt32 >>> ((1 : Int32).toUInt32 &&& Int32.toUInt32 31)).toInt32) &&& (1431655765 : Int32))).toUInt32 >>> ((2 : Int32).toUInt32 &&& Int32.toUInt32 31)).toInt32) &&& (858993459 : Int32))))]) hx hb d_JI_bitCount_23 rfl hl (by decide) rfl (fun ls hl => ?_)
  refine lv_iload_n hx hb d_JI_bitCount_24 rfl (lv_at hl 0 rfl) ?_
  refine lv_iload_n hx hb d_JI_bitCount_25 rfl (lv_at hl 0 rfl) ?_
  refine lv_iconst (v := 4) hx hb d_JI_bitCount_26 (by decide) ?_
  refine lv_iushr hx hb d_JI_bitCount_27 rfl ?_
  refine lv_iadd hx hb d_JI_bitCount_28 ?_
  refine lv_ldcw (v := 252645135) hx hb hown (ht _ mC_JI_267) d_JI_bitCount_29 ?_
  refine lv_iand hx hb d_JI_bitCount_32 ?_
  refine lv_istore_n (lv' := [(0, .int (((((a0 - (((a0.toUInt32 >>> ((1 : Int32).toUInt32 &&& Int32.toUInt32 31)).toInt32) &&& (1431655765 : Int32))) &&& (858993459 : Int32)) + ((((a0 - (((a0.toUInt32 >>> ((1 : Int32).toUInt32 &&& Int32.toUInt32 31)).toInt32) &&& (1431655765 : Int32))).toUInt32 >>> ((2 : Int32).toUInt32 &&& Int32.toUInt32 31)).toInt32) &&& (858993459 : Int32))) + (((((a0 - (((a0.toUInt32 >>> ((1 : Int32).toUInt32 &&& Int32.toUInt32 31)).toInt32) &&& (1431655765 : Int32))) &&& (858993459 : Int32)) + ((((a0 - (((a0.toUInt32 >>> ((1 : Int32).toUInt32 &&& Int32.toUInt32 31)).toInt32) &&& (1431655765 : Int32))).toUInt32 >>> ((2 : Int32).toUInt32 &&& Int32.toUInt32 31)).toInt32) &&& (858993459 : Int32))).toUInt32 >>> ((4 : Int32).toUInt32 &&& Int32.toUInt32 31)).toInt32)) &&& (252645135 : Int32)))]) hx hb d_JI_bitCount_33 rfl hl (by decide) rfl (fun ls hl => ?_)
  refine lv_iload_n hx hb d_JI_bitCount_34 rfl (lv_at hl 0 rfl) ?_
  refine lv_iload_n hx hb d_JI_bitCount_35 rfl (lv_at hl 0 rfl) ?_
  refine lv_bipush (v := 8) hx hb d_JI_bitCount_36 (by decide) ?_
  refine lv_iushr hx hb d_JI_bitCount_38 rfl ?_
  refine lv_iadd hx hb d_JI_bitCount_39 ?_
  refine lv_istore_n (lv' := [(0, .int ((((((a0 - (((a0.toUInt32 >>> ((1 : Int32).toUInt32 &&& Int32.toUInt32 31)).toInt32) &&& (1431655765 : Int32))) &&& (858993459 : Int32)) + ((((a0 - (((a0.toUInt32 >>> ((1 : Int32).toUInt32 &&& Int32.toUInt32 31)).toInt32) &&& (1431655765 : Int32))).toUInt32 >>> ((2 : Int32).toUInt32 &&& Int32.toUInt32 31)).toInt32) &&& (858993459 : Int32))) + (((((a0 - (((a0.toUInt32 >>> ((1 : Int32).toUInt32 &&& Int32.toUInt32 31)).toInt32) &&& (1431655765 : Int32))) &&& (858993459 : Int32)) + ((((a0 - (((a0.toUInt32 >>> ((1 : Int32).toUInt32 &&& Int32.toUInt32 31)).toInt32) &&& (1431655765 : Int32))).toUInt32 >>> ((2 : Int32).toUInt32 &&& Int32.toUInt32 31)).toInt32) &&& (858993459 : Int32))).toUInt32 >>> ((4 : Int32).toUInt32 &&& Int32.toUInt32 31)).toInt32)) &&& (252645135 : Int32)) + (((((((a0 - (((a0.toUInt32 >>> ((1 : Int32).toUInt32 &&& Int32.toUInt32 31)).toInt32) &&& (1431655765 : Int32))) &&& (858993459 : Int32)) + ((((a0 - (((a0.toUInt32 >>> ((1 : Int32).toUInt32 &&& Int32.toUInt32 31)).toInt32) &&& (1431655765 : Int32))).toUInt32 >>> ((2 : Int32).toUInt32 &&& Int32.toUInt32 31)).toInt32) &&& (858993459 : Int32))) + (((((a0 - (((a0.toUInt32 >>> ((1 : Int32).toUInt32 &&& Int32.toUInt32 31)).toInt32) &&& (1431655765 : Int32))) &&& (858993459 : Int32)) + ((((a0 - (((a0.toUInt32 >>> ((1 : Int32).toUInt32 &&& Int32.toUInt32 31)).toInt32) &&& (1431655765 : Int32))).toUInt32 >>> ((2 : Int32).toUInt32 &&& Int32.toUInt32 31)).toInt32) &&& (858993459 : Int32))).toUInt32 >>> ((4 : Int32).toUInt32 &&& Int32.toUInt32 31)).toInt32)) &&& (252645135 : Int32)).toUInt32 >>> ((8 : Int32).toUInt32 &&& Int32.toUInt32 31)).toInt32)))]) hx hb d_JI_bitCount_40 rfl hl (by decide) rfl (fun ls hl => ?_)
  refine lv_iload_n hx hb d_JI_bitCount_41 rfl (lv_at hl 0 rfl) ?_
  refine lv_iload_n hx hb d_JI_bitCount_42 rfl (lv_at hl 0 rfl) ?_
  refine lv_bipush (v := 16) hx hb d_JI_bitCount_43 (by decide) ?_
  refine lv_iushr hx hb d_JI_bitCount_45 rfl ?_
  refine lv_iadd hx hb d_JI_bitCount_46 ?_
  refine lv_istore_n (lv' := [(0, .int (((((((a0 - (((a0.toUInt32 >>> ((1 : Int32).toUInt32 &&& Int32.toUInt32 31)).toInt32) &&& (1431655765 : Int32))) &&& (858993459 : Int32)) + ((((a0 - (((a0.toUInt32 >>> ((1 : Int32).toUInt32 &&& Int32.toUInt32 31)).toInt32) &&& (1431655765 : Int32))).toUInt32 >>> ((2 : Int32).toUInt32 &&& Int32.toUInt32 31)).toInt32) &&& (858993459 : Int32))) + (((((a0 - (((a0.toUInt32 >>> ((1 : Int32).toUInt32 &&& Int32.toUInt32 31)).toInt32) &&& (1431655765 : Int32))) &&& (858993459 : Int32)) + ((((a0 - (((a0.toUInt32 >>> ((1 : Int32).toUInt32 &&& Int32.toUInt32 31)).toInt32) &&& (1431655765 : Int32))).toUInt32 >>> ((2 : Int32).toUInt32 &&& Int32.toUInt32 31)).toInt32) &&& (858993459 : Int32))).toUInt32 >>> ((4 : Int32).toUInt32 &&& Int32.toUInt32 31)).toInt32)) &&& (252645135 : Int32)) + (((((((a0 - (((a0.toUInt32 >>> ((1 : Int32).toUInt32 &&& Int32.toUInt32 31)).toInt32) &&& (1431655765 : Int32))) &&& (858993459 : Int32)) + ((((a0 - (((a0.toUInt32 >>> ((1 : Int32).toUInt32 &&& Int32.toUInt32 31)).toInt32) &&& (1431655765 : Int32))).toUInt32 >>> ((2 : Int32).toUInt32 &&& Int32.toUInt32 31)).toInt32) &&& (858993459 : Int32))) + (((((a0 - (((a0.toUInt32 >>> ((1 : Int32).toUInt32 &&& Int32.toUInt32 31)).toInt32) &&& (1431655765 : Int32))) &&& (858993459 : Int32)) + ((((a0 - (((a0.toUInt32 >>> ((1 : Int32).toUInt32 &&& Int32.toUInt32 31)).toInt32) &&& (1431655765 : Int32))).toUInt32 >>> ((2 : Int32).toUInt32 &&& Int32.toUInt32 31)).toInt32) &&& (858993459 : Int32))).toUInt32 >>> ((4 : Int32).toUInt32 &&& Int32.toUInt32 31)).toInt32)) &&& (252645135 : Int32)).toUInt32 >>> ((8 : Int32).toUInt32 &&& Int32.toUInt32 31)).toInt32)) + ((((((((a0 - (((a0.toUInt32 >>> ((1 : Int32).toUInt32 &&& Int32.toUInt32 31)).toInt32) &&& (1431655765 : Int32))) &&& (858993459 : Int32)) + ((((a0 - (((a0.toUInt32 >>> ((1 : Int32).toUInt32 &&& Int32.toUInt32 31)).toInt32) &&& (1431655765 : Int32))).toUInt32 >>> ((2 : Int32).toUInt32 &&& Int32.toUInt32 31)).toInt32) &&& (858993459 : Int32))) + (((((a0 - (((a0.toUInt32 >>> ((1 : Int32).toUInt32 &&& Int32.toUInt32 31)).toInt32) &&& (1431655765 : Int32))) &&& (858993459 : Int32)) + ((((a0 - (((a0.toUInt32 >>> ((1 : Int32).toUInt32 &&& Int32.toUInt32 31)).toInt32) &&& (1431655765 : Int32))).toUInt32 >>> ((2 : Int32).toUInt32 &&& Int32.toUInt32 31)).toInt32) &&& (858993459 : Int32))).toUInt32 >>> ((4 : Int32).toUInt32 &&& Int32.toUInt32 31)).toInt32)) &&& (252645135 : Int32)) + (((((((a0 - (((a0.toUInt32 >>> ((1 : Int32).toUInt32 &&& Int32.toUInt32 31)).toInt32) &&& (1431655765 : Int32))) &&& (858993459 : Int32)) + ((((a0 - (((a0.toUInt32 >>> ((1 : Int32).toUInt32 &&& Int32.toUInt32 31)).toInt32) &&& (1431655765 : Int32))).toUInt32 >>> ((2 : Int32).toUInt32 &&& Int32.toUInt32 31)).toInt32) &&& (858993459 : Int32))) + (((((a0 - (((a0.toUInt32 >>> ((1 : Int32).toUInt32 &&& Int32.toUInt32 31)).toInt32) &&& (1431655765 : Int32))) &&& (858993459 : Int32)) + ((((a0 - (((a0.toUInt32 >>> ((1 : Int32).toUInt32 &&& Int32.toUInt32 31)).toInt32) &&& (1431655765 : Int32))).toUInt32 >>> ((2 : Int32).toUInt32 &&& Int32.toUInt32 31)).toInt32) &&& (858993459 : Int32))).toUInt32 >>> ((4 : Int32).toUInt32 &&& Int32.toUInt32 31)).toInt32)) &&& (252645135 : Int32)).toUInt32 >>> ((8 : Int32).toUInt32 &&& Int32.toUInt32 31)).toInt32)).toUInt32 >>> ((16 : Int32).toUInt32 &&& Int32.toUInt32 31)).toInt32)))]) hx hb d_JI_bitCount_47 rfl hl (by decide) rfl (fun ls hl => ?_)
  refine lv_iload_n hx hb d_JI_bitCount_48 rfl (lv_at hl 0 rfl) ?_
  refine lv_bipush (v := 63) hx hb d_JI_bitCount_49 (by decide) ?_
  refine lv_iand hx hb d_JI_bitCount_51 ?_
  rw [← hQ]
  exact W.iret (v := (((((((a0 - (((a0.toUInt32 >>> ((1 : Int32).toUInt32 &&& Int32.toUInt32 31)).toInt32) &&& (1431655765 : Int32))) &&& (858993459 : Int32)) + ((((a0 - (((a0.toUInt32 >>> ((1 : Int32).toUInt32 &&& Int32.toUInt32 31)).toInt32) &&& (1431655765 : Int32))).toUInt32 >>> ((2 : Int32).toUInt32 &&& Int32.toUInt32 31)).toInt32) &&& (858993459 : Int32))) + (((((a0 - (((a0.toUInt32 >>> ((1 : Int32).toUInt32 &&& Int32.toUInt32 31)).toInt32) &&& (1431655765 : Int32))) &&& (858993459 : Int32)) + ((((a0 - (((a0.toUInt32 >>> ((1 : Int32).toUInt32 &&& Int32.toUInt32 31)).toInt32) &&& (1431655765 : Int32))).toUInt32 >>> ((2 : Int32).toUInt32 &&& Int32.toUInt32 31)).toInt32) &&& (858993459 : Int32))).toUInt32 >>> ((4 : Int32).toUInt32 &&& Int32.toUInt32 31)).toInt32)) &&& (252645135 : Int32)) + (((((((a0 - (((a0.toUInt32 >>> ((1 : Int32).toUInt32 &&& Int32.toUInt32 31)).toInt32) &&& (1431655765 : Int32))) &&& (858993459 : Int32)) + ((((a0 - (((a0.toUInt32 >>> ((1 : Int32).toUInt32 &&& Int32.toUInt32 31)).toInt32) &&& (1431655765 : Int32))).toUInt32 >>> ((2 : Int32).toUInt32 &&& Int32.toUInt32 31)).toInt32) &&& (858993459 : Int32))) + (((((a0 - (((a0.toUInt32 >>> ((1 : Int32).toUInt32 &&& Int32.toUInt32 31)).toInt32) &&& (1431655765 : Int32))) &&& (858993459 : Int32)) + ((((a0 - (((a0.toUInt32 >>> ((1 : Int32).toUInt32 &&& Int32.toUInt32 31)).toInt32) &&& (1431655765 : Int32))).toUInt32 >>> ((2 : Int32).toUInt32 &&& Int32.toUInt32 31)).toInt32) &&& (858993459 : Int32))).toUInt32 >>> ((4 : Int32).toUInt32 &&& Int32.toUInt32 31)).toInt32)) &&& (252645135 : Int32)).toUInt32 >>> ((8 : Int32).toUInt32 &&& Int32.toUInt32 31)).toInt32)) + ((((((((a0 - (((a0.toUInt32 >>> ((1 : Int32).toUInt32 &&& Int32.toUInt32 31)).toInt32) &&& (1431655765 : Int32))) &&& (858993459 : Int32)) + ((((a0 - (((a0.toUInt32 >>> ((1 : Int32).toUInt32 &&& Int32.toUInt32 31)).toInt32) &&& (1431655765 : Int32))).toUInt32 >>> ((2 : Int32).toUInt32 &&& Int32.toUInt32 31)).toInt32) &&& (858993459 : Int32))) + (((((a0 - (((a0.toUInt32 >>> ((1 : Int32).toUInt32 &&& Int32.toUInt32 31)).toInt32) &&& (1431655765 : Int32))) &&& (858993459 : Int32)) + ((((a0 - (((a0.toUInt32 >>> ((1 : Int32).toUInt32 &&& Int32.toUInt32 31)).toInt32) &&& (1431655765 : Int32))).toUInt32 >>> ((2 : Int32).toUInt32 &&& Int32.toUInt32 31)).toInt32) &&& (858993459 : Int32))).toUInt32 >>> ((4 : Int32).toUInt32 &&& Int32.toUInt32 31)).toInt32)) &&& (252645135 : Int32)) + (((((((a0 - (((a0.toUInt32 >>> ((1 : Int32).toUInt32 &&& Int32.toUInt32 31)).toInt32) &&& (1431655765 : Int32))) &&& (858993459 : Int32)) + ((((a0 - (((a0.toUInt32 >>> ((1 : Int32).toUInt32 &&& Int32.toUInt32 31)).toInt32) &&& (1431655765 : Int32))).toUInt32 >>> ((2 : Int32).toUInt32 &&& Int32.toUInt32 31)).toInt32) &&& (858993459 : Int32))) + (((((a0 - (((a0.toUInt32 >>> ((1 : Int32).toUInt32 &&& Int32.toUInt32 31)).toInt32) &&& (1431655765 : Int32))) &&& (858993459 : Int32)) + ((((a0 - (((a0.toUInt32 >>> ((1 : Int32).toUInt32 &&& Int32.toUInt32 31)).toInt32) &&& (1431655765 : Int32))).toUInt32 >>> ((2 : Int32).toUInt32 &&& Int32.toUInt32 31)).toInt32) &&& (858993459 : Int32))).toUInt32 >>> ((4 : Int32).toUInt32 &&& Int32.toUInt32 31)).toInt32)) &&& (252645135 : Int32)).toUInt32 >>> ((8 : Int32).toUInt32 &&& Int32.toUInt32 31)).toInt32)).toUInt32 >>> ((16 : Int32).toUInt32 &&& Int32.toUInt32 31)).toInt32)) &&& (63 : Int32)) hx hb hr (fun t ht hW => ⟨⟨(((((((a0 - (((a0.toUInt32 >>> ((1 : Int32).toUInt32 &&& Int32.toUInt32 31)).toInt32) &&& (1431655765 : Int32))) &&& (858993459 : Int32)) + ((((a0 - (((a0.toUInt32 >>> ((1 : Int32).toUInt32 &&& Int32.toUInt32 31)).toInt32) &&& (1431655765 : Int32))).toUInt32 >>> ((2 : Int32).toUInt32 &&& Int32.toUInt32 31)).toInt32) &&& (858993459 : Int32))) + (((((a0 - (((a0.toUInt32 >>> ((1 : Int32).toUInt32 &&& Int32.toUInt32 31)).toInt32) &&& (1431655765 : Int32))) &&& (858993459 : Int32)) + ((((a0 - (((a0.toUInt32 >>> ((1 : Int32).toUInt32 &&& Int32.toUInt32 31)).toInt32) &&& (1431655765 : Int32))).toUInt32 >>> ((2 : Int32).toUInt32 &&& Int32.toUInt32 31)).toInt32) &&& (858993459 : Int32))).toUInt32 >>> ((4 : Int32).toUInt32 &&& Int32.toUInt32 31)).toInt32)) &&& (252645135 : Int32)) + (((((((a0 - (((a0.toUInt32 >>> ((1 : Int32).toUInt32 &&& Int32.toUInt32 31)).toInt32) &&& (1431655765 : Int32))) &&& (858993459 : Int32)) + ((((a0 - (((a0.toUInt32 >>> ((1 : Int32).toUInt32 &&& Int32.toUInt32 31)).toInt32) &&& (1431655765 : Int32))).toUInt32 >>> ((2 : Int32).toUInt32 &&& Int32.toUInt32 31)).toInt32) &&& (858993459 : Int32))) + (((((a0 - (((a0.toUInt32 >>> ((1 : Int32).toUInt32 &&& Int32.toUInt32 31)).toInt32) &&& (1431655765 : Int32))) &&& (858993459 : Int32)) + ((((a0 - (((a0.toUInt32 >>> ((1 : Int32).toUInt32 &&& Int32.toUInt32 31)).toInt32) &&& (1431655765 : Int32))).toUInt32 >>> ((2 : Int32).toUInt32 &&& Int32.toUInt32 31)).toInt32) &&& (858993459 : Int32))).toUInt32 >>> ((4 : Int32).toUInt32 &&& Int32.toUInt32 31)).toInt32)) &&& (252645135 : Int32)).toUInt32 >>> ((8 : Int32).toUInt32 &&& Int32.toUInt32 31)).toInt32)) + ((((((((a0 - (((a0.toUInt32 >>> ((1 : Int32).toUInt32 &&& Int32.toUInt32 31)).toInt32) &&& (1431655765 : Int32))) &&& (858993459 : Int32)) + ((((a0 - (((a0.toUInt32 >>> ((1 : Int32).toUInt32 &&& Int32.toUInt32 31)).toInt32) &&& (1431655765 : Int32))).toUInt32 >>> ((2 : Int32).toUInt32 &&& Int32.toUInt32 31)).toInt32) &&& (858993459 : Int32))) + (((((a0 - (((a0.toUInt32 >>> ((1 : Int32).toUInt32 &&& Int32.toUInt32 31)).toInt32) &&& (1431655765 : Int32))) &&& (858993459 : Int32)) + ((((a0 - (((a0.toUInt32 >>> ((1 : Int32).toUInt32 &&& Int32.toUInt32 31)).toInt32) &&& (1431655765 : Int32))).toUInt32 >>> ((2 : Int32).toUInt32 &&& Int32.toUInt32 31)).toInt32) &&& (858993459 : Int32))).toUInt32 >>> ((4 : Int32).toUInt32 &&& Int32.toUInt32 31)).toInt32)) &&& (252645135 : Int32)) + (((((((a0 - (((a0.toUInt32 >>> ((1 : Int32).toUInt32 &&& Int32.toUInt32 31)).toInt32) &&& (1431655765 : Int32))) &&& (858993459 : Int32)) + ((((a0 - (((a0.toUInt32 >>> ((1 : Int32).toUInt32 &&& Int32.toUInt32 31)).toInt32) &&& (1431655765 : Int32))).toUInt32 >>> ((2 : Int32).toUInt32 &&& Int32.toUInt32 31)).toInt32) &&& (858993459 : Int32))) + (((((a0 - (((a0.toUInt32 >>> ((1 : Int32).toUInt32 &&& Int32.toUInt32 31)).toInt32) &&& (1431655765 : Int32))) &&& (858993459 : Int32)) + ((((a0 - (((a0.toUInt32 >>> ((1 : Int32).toUInt32 &&& Int32.toUInt32 31)).toInt32) &&& (1431655765 : Int32))).toUInt32 >>> ((2 : Int32).toUInt32 &&& Int32.toUInt32 31)).toInt32) &&& (858993459 : Int32))).toUInt32 >>> ((4 : Int32).toUInt32 &&& Int32.toUInt32 31)).toInt32)) &&& (252645135 : Int32)).toUInt32 >>> ((8 : Int32).toUInt32 &&& Int32.toUInt32 31)).toInt32)).toUInt32 >>> ((16 : Int32).toUInt32 &&& Int32.toUInt32 31)).toInt32)) &&& (63 : Int32), (), rfl, hf.symm, by rw [ht]; exact hP, va_K.moved hW.alike hK⟩, hS.F ht⟩) hS.2.2 d_JI_bitCount_52
set_option maxHeartbeats 4000000 in
set_option maxRecDepth 100000 in
theorem c_Board_mustOpen (l : Launch) (D : va_G) (cA : Nat → ClassId) (ad : Nat → Nat) (hI : InjA ad) (sz : Nat) (a1 : Int32) (a2 : Int32) (S : SS) (hs : f_Board_mustOpen a1 a2 S ≠ none) : Met l y_Board_mustOpen w_Board_mustOpen ({ frames := 0, cells := 0, slots := 0, locals := 0 }) (va_Pc [.ref (ad 2), .int a1, .int a2] (fun U => U.heap.size = sz ∧ va_P D vwCl (X cA ad S) U.heap ∧ va_K D vwCl (tysX cA) U)) (va_Qi (fun (r : Int32) (_ : Unit) => f_Board_mustOpen a1 a2 S = some r ∧ (r = 0 ∨ r = 1)) (fun (_ : Unit) t => va_P D vwCl (X cA ad S) t.heap ∧ va_K D vwCl (tysX cA) t) (AS ad sz)) 0 0 (AS ad sz) := by
  refine Met.ofW (cc := b_Board_mustOpen) (maxL := 3) (ret := (some .boolean)) (by decide) rfl ?_
  intro p e s m args below meth c s₁ B hml hv
  obtain ⟨rfl, hsz, hP, hK⟩ := hv
  have hx := B.exec
  have hb := B.bytes
  have hr := B.returns
  have hts := atoms_spec (ws := w_Board_mustOpen) B.pre
  have ht := fun w h => hts w (List.mem_cons_of_mem _ h)
  have hown : s.vm.findClass R_Board = some m.cls := findClass_of_methodNamed B.named
  have hlocks := B.notSynchronized
  subst hsz
  have hAd : ∀ q, q < NP → AS ad s.heap.size (ad q) := fun q h => Or.inl ⟨q, h, rfl⟩
  have hA : ∀ q : Nat, s.heap.size ≤ q → AS ad s.heap.size q := fun q h => Or.inr h
  have hAS : ∀ z : Nat, s.heap.size ≤ z → ∀ q : Nat, AS ad z q → AS ad s.heap.size q := fun z h q hq => hq.elim Or.inl (fun g => Or.inr (Nat.le_trans h g))
  generalize hAe : AS ad s.heap.size = A at hAd hA hAS ⊢
  have hS : va_S A s.heap s.heap [] := va_S.rf
  have hl := lv_entry ([.ref (ad 2), .int a1, .int a2]) (n := 3) (Nat.le_of_ble_eq_true rfl)
  rw [lg_entry_eq]
  generalize (lg_sl ([.ref (ad 2), .int a1, .int a2]) ++ List.replicate (3 - (lg_sl ([.ref (ad 2), .int a1, .int a2])).length) Slot.unset).toArray = ls at hl ⊢
  have hl : lv_has ls 3 [(0, .ref (ad 2)), (1, .int a1), (2, .int a2)] := hl
  have hf := (f_Board_mustOpen_s a1 a2 S).symm
  generalize hQ : MQ below _ _ s _ _ _ = Q
  refine lv_aload_n hx hb d_Board_mustOpen_0 rfl (lv_at hl 0 rfl) ?_
  refine va_get (D := D) (ci := 2) (v := .ref (ad 5)) (C := R_Board) (T := T_Board) (N := 7) hx hb ht i_Board hown hK hP 2 Xa_2 rfl 3 (by decide) (ht _ mF_Board_9) (fun _ h9 => h9) rfl d_Board_mustOpen_1 ?_
  refine lv_iload_n hx hb d_Board_mustOpen_4 rfl (lv_at hl 1 rfl) ?_
  by_cases b1 : oob a1 8
  · rw [if_pos b1] at hf; exact absurd hf.symm hs
  rw [if_neg b1] at hf
  refine va_iald (f := S.1 5) hx hb hK hP 5 0 Xa_5 rfl b1 d_Board_mustOpen_5 ?_
  refine lv_iload_n hx hb d_Board_mustOpen_6 rfl (lv_at hl 2 rfl) ?_
  refine lv_ishr hx hb d_Board_mustOpen_7 ?_
  refine lv_iconst (v := 1) hx hb d_Board_mustOpen_8 (by decide) ?_
  refine lv_iand hx hb d_Board_mustOpen_9 ?_
  refine lv_if_eq (tgt := 17) hx hb d_Board_mustOpen_10 (by decide) (fun c2 => ?_) (fun c2 => ?_)
  · rw [if_pos c2] at hf
    refine lv_iconst (v := 0) hx hb d_Board_mustOpen_17 (by decide) ?_
    rw [← hQ]
    have hz : (0 : Int32) = 0 ∨ (0 : Int32) = 1 := Or.inl rfl
    exact W.zret (v := (0 : Int32)) hx hb hr (zb_n hz) (fun t ht hW => ⟨⟨(0 : Int32), (), rfl, ⟨hf.symm, hz⟩, by rw [ht]; exact hP, va_K.moved hW.alike hK⟩, hS.F ht⟩) hS.2.2 d_Board_mustOpen_18
  · rw [if_neg c2] at hf
    refine lv_iconst (v := 1) hx hb d_Board_mustOpen_13 (by decide) ?_
    refine lv_goto (tgt := 18) hx hb d_Board_mustOpen_14 (by decide) ?_
    rw [← hQ]
    have hz : (1 : Int32) = 0 ∨ (1 : Int32) = 1 := Or.inr rfl
    exact W.zret (v := (1 : Int32)) hx hb hr (zb_n hz) (fun t ht hW => ⟨⟨(1 : Int32), (), rfl, ⟨hf.symm, hz⟩, by rw [ht]; exact hP, va_K.moved hW.alike hK⟩, hS.F ht⟩) hS.2.2 d_Board_mustOpen_18
set_option maxHeartbeats 4000000 in
set_option maxRecDepth 100000 in
theorem c_Board_tell (l : Launch) (D : va_G) (cA : Nat → ClassId) (ad : Nat → Nat) (hI : InjA ad) (sz : Nat) (a1 : Int32) (a2 : Int32) (a3 : Int32) (S : SS) (hs : f_Board_tell a1 a2 a3 S ≠ none) : Met l y_Board_tell w_Board_tell ({ frames := 0, cells := 0, slots := 0, locals := 0 }) (va_Pc [.ref (ad 2), .int a1, .int a2, .int a3] (fun U => U.heap.size = sz ∧ va_P D vwCl (X cA ad S) U.heap ∧ va_K D vwCl (tysX cA) U)) (va_Qv (fun (u : SS) => f_Board_tell a1 a2 a3 S = some u) (fun (u : SS) t => va_P D vwCl (X cA ad u) t.heap ∧ va_K D vwCl (tysX cA) t) (AS ad sz)) 0 0 (AS ad sz) := by
  refine Met.ofW (cc := b_Board_tell) (maxL := 4) (ret := none) (by decide) rfl ?_
  intro p e s m args below meth c s₁ B hml hv
  obtain ⟨rfl, hsz, hP, hK⟩ := hv
  have hx := B.exec
  have hb := B.bytes
  have hr := B.returns
  have hts := atoms_spec (ws := w_Board_tell) B.pre
  have ht := fun w h => hts w (List.mem_cons_of_mem _ h)
  have hown : s.vm.findClass R_Board = some m.cls := findClass_of_methodNamed B.named
  have hlocks := B.notSynchronized
  subst hsz
  have hAd : ∀ q, q < NP → AS ad s.heap.size (ad q) := fun q h => Or.inl ⟨q, h, rfl⟩
  have hA : ∀ q : Nat, s.heap.size ≤ q → AS ad s.heap.size q := fun q h => Or.inr h
  have hAS : ∀ z : Nat, s.heap.size ≤ z → ∀ q : Nat, AS ad z q → AS ad s.heap.size q := fun z h q hq => hq.elim Or.inl (fun g => Or.inr (Nat.le_trans h g))
  generalize hAe : AS ad s.heap.size = A at hAd hA hAS ⊢
  have hS : va_S A s.heap s.heap [] := va_S.rf
  have hl := lv_entry ([.ref (ad 2), .int a1, .int a2, .int a3]) (n := 4) (Nat.le_of_ble_eq_true rfl)
  rw [lg_entry_eq]
  generalize (lg_sl ([.ref (ad 2), .int a1, .int a2, .int a3]) ++ List.replicate (4 - (lg_sl ([.ref (ad 2), .int a1, .int a2, .int a3])).length) Slot.unset).toArray = ls at hl ⊢
  have hl : lv_has ls 4 [(0, .ref (ad 2)), (1, .int a1), (2, .int a2), (3, .int a3)] := hl
  have hf := (f_Board_tell_s a1 a2 a3 S).symm
  generalize hQ : MQ below _ _ s _ _ _ = Q
  refine lv_iload_n hx hb d_Board_tell_0 rfl (lv_at hl 3 rfl) ?_
  refine lv_if_eq (tgt := 19) hx hb d_Board_tell_1 (by decide) (fun c1 => ?_) (fun c1 => ?_)
  · rw [if_pos c1] at hf
    refine lv_aload_n hx hb d_Board_tell_19 rfl (lv_at hl 0 rfl) ?_
    refine va_get (D := D) (ci := 2) (v := .ref (ad 5)) (C := R_Board) (T := T_Board) (N := 7) hx hb ht i_Board hown hK hP 2 Xa_2 rfl 3 (by decide) (ht _ mF_Board_9) (fun _ h9 => h9) rfl d_Board_tell_20 ?_
    refine lv_iload_n hx hb d_Board_tell_23 rfl (lv_at hl 1 rfl) ?_
    refine lv_dup2_11 hx hb d_Board_tell_24 rfl rfl ?_
    by_cases b2 : oob a1 8
    · rw [if_pos b2] at hf; exact absurd hf.symm hs
    rw [if_neg b2] at hf
    refine va_iald (f := S.1 5) hx hb hK hP 5 0 Xa_5 rfl b2 d_Board_tell_25 ?_
    refine lv_iconst (v := 1) hx hb d_Board_tell_26 (by decide) ?_
    refine lv_iload_n hx hb d_Board_tell_27 rfl (lv_at hl 2 rfl) ?_
    refine lv_ishl hx hb d_Board_tell_28 ?_
    refine lv_iconst (v := (-1)) hx hb d_Board_tell_29 (by decide) ?_
    refine lv_ixor hx hb d_Board_tell_30 ?_
    refine lv_iand hx hb d_Board_tell_31 ?_
    refine va_iast hx hb hK hP (X_D hI hAd) hS 5 0 Xa_5 rfl b2 d_Board_tell_32 (fun H locs hP _ hS => ?_)
    replace hP := X_stI (by decide) Xc_5 hP
    rw [← hQ]
    exact W.vret hx hb hr (fun t ht hW => ⟨⟨wI S 5 a1.toNatClampNeg ((S.1 5 a1.toNatClampNeg) &&& (((1 : Int32) <<< (a2 &&& 31)) ^^^ (-1 : Int32))), rfl, hf.symm, by rw [ht]; exact hP, va_K.moved hW.alike hK⟩, hS.F ht⟩) hS.2.2 d_Board_tell_33
  · rw [if_neg c1] at hf
    refine lv_aload_n hx hb d_Board_tell_4 rfl (lv_at hl 0 rfl) ?_
    refine va_get (D := D) (ci := 2) (v := .ref (ad 5)) (C := R_Board) (T := T_Board) (N := 7) hx hb ht i_Board hown hK hP 2 Xa_2 rfl 3 (by decide) (ht _ mF_Board_9) (fun _ h9 => h9) rfl d_Board_tell_5 ?_
    refine lv_iload_n hx hb d_Board_tell_8 rfl (lv_at hl 1 rfl) ?_
    refine lv_dup2_11 hx hb d_Board_tell_9 rfl rfl ?_
    by_cases b3 : oob a1 8
    · rw [if_pos b3] at hf; exact absurd hf.symm hs
    rw [if_neg b3] at hf
    refine va_iald (f := S.1 5) hx hb hK hP 5 0 Xa_5 rfl b3 d_Board_tell_10 ?_
    refine lv_iconst (v := 1) hx hb d_Board_tell_11 (by decide) ?_
    refine lv_iload_n hx hb d_Board_tell_12 rfl (lv_at hl 2 rfl) ?_
    refine lv_ishl hx hb d_Board_tell_13 ?_
    refine lv_ior hx hb d_Board_tell_14 ?_
    refine va_iast hx hb hK hP (X_D hI hAd) hS 5 0 Xa_5 rfl b3 d_Board_tell_15 (fun H locs hP _ hS => ?_)
    replace hP := X_stI (by decide) Xc_5 hP
    refine lv_goto (tgt := 33) hx hb d_Board_tell_16 (by decide) ?_
    rw [← hQ]
    exact W.vret hx hb hr (fun t ht hW => ⟨⟨wI S 5 a1.toNatClampNeg ((S.1 5 a1.toNatClampNeg) ||| ((1 : Int32) <<< (a2 &&& 31))), rfl, hf.symm, by rw [ht]; exact hP, va_K.moved hW.alike hK⟩, hS.F ht⟩) hS.2.2 d_Board_tell_33
set_option maxHeartbeats 4000000 in
set_option maxRecDepth 100000 in
theorem c_Law_pairBit (l : Launch) (D : va_G) (cA : Nat → ClassId) (ad : Nat → Nat) (hI : InjA ad) (sz : Nat) (a0 : Int32) (a1 : Int32) (S : SS) (hs : f_Law_pairBit a0 a1 S ≠ none) : Met l y_Law_pairBit w_Law_pairBit ({ frames := 0, cells := 0, slots := 0, locals := 0 }) (va_Pc [.int a0, .int a1] (fun U => U.heap.size = sz ∧ va_P D vwCl (X cA ad S) U.heap ∧ va_K D vwCl (tysX cA) U)) (va_Ql (fun (r : Int64) (_ : Unit) => f_Law_pairBit a0 a1 S = some r) (fun (_ : Unit) t => va_P D vwCl (X cA ad S) t.heap ∧ va_K D vwCl (tysX cA) t) (AS ad sz)) 0 0 (AS ad sz) := by
  refine Met.ofW (cc := b_Law_pairBit) (maxL := 2) (ret := (some .long)) (by decide) rfl ?_
  intro p e s m args below meth c s₁ B hml hv
  obtain ⟨rfl, hsz, hP, hK⟩ := hv
  have hx := B.exec
  have hb := B.bytes
  have hr := B.returns
  have hts := atoms_spec (ws := w_Law_pairBit) B.pre
  have ht := fun w h => hts w (List.mem_cons_of_mem _ h)
  have hown : s.vm.findClass R_Law = some m.cls := findClass_of_methodNamed B.named
  have hlocks := B.notSynchronized
  subst hsz
  have hAd : ∀ q, q < NP → AS ad s.heap.size (ad q) := fun q h => Or.inl ⟨q, h, rfl⟩
  have hA : ∀ q : Nat, s.heap.size ≤ q → AS ad s.heap.size q := fun q h => Or.inr h
  have hAS : ∀ z : Nat, s.heap.size ≤ z → ∀ q : Nat, AS ad z q → AS ad s.heap.size q := fun z h q hq => hq.elim Or.inl (fun g => Or.inr (Nat.le_trans h g))
  generalize hAe : AS ad s.heap.size = A at hAd hA hAS ⊢
  have hS : va_S A s.heap s.heap [] := va_S.rf
  have hl := lv_entry ([.int a0, .int a1]) (n := 2) (Nat.le_of_ble_eq_true rfl)
  rw [lg_entry_eq]
  generalize (lg_sl ([.int a0, .int a1]) ++ List.replicate (2 - (lg_sl ([.int a0, .int a1])).length) Slot.unset).toArray = ls at hl ⊢
  have hl : lv_has ls 2 [(0, .int a0), (1, .int a1)] := hl
  have hf := (f_Law_pairBit_s a0 a1 S).symm
  generalize hQ : MQ below _ _ s _ _ _ = Q
  refine lv_lconst (v := 1) hx hb d_Law_pairBit_0 (by decide) ?_
  refine lv_iload_n hx hb d_Law_pairBit_1 rfl (lv_at hl 0 rfl) ?_
  refine lv_bipush (v := 8) hx hb d_Law_pairBit_2 (by decide) ?_
  refine lv_imul hx hb d_Law_pairBit_4 ?_
  refine lv_iload_n hx hb d_Law_pairBit_5 rfl (lv_at hl 1 rfl) ?_
  refine lv_iadd hx hb d_Law_pairBit_6 ?_
  refine lv_lshl hx hb d_Law_pairBit_7 rfl ?_
  rw [← hQ]
  exact W.lret (v := (1 : Int64) <<< (((a0 * (8 : Int32)) + a1).toInt64 &&& 63)) hx hb hr (fun t ht hW => ⟨⟨(1 : Int64) <<< (((a0 * (8 : Int32)) + a1).toInt64 &&& 63), (), rfl, hf.symm, by rw [ht]; exact hP, va_K.moved hW.alike hK⟩, hS.F ht⟩) hS.2.2 d_Law_pairBit_8
set_option maxHeartbeats 4000000 in
set_option maxRecDepth 100000 in
theorem c_Law_isBarred (l : Launch) (D : va_G) (cA : Nat → ClassId) (ad : Nat → Nat) (hI : InjA ad) (sz : Nat) (a1 : Int32) (a2 : Int32) (S : SS) (hs : f_Law_isBarred a1 a2 S ≠ none) : Met l y_Law_isBarred w_Law_isBarred ({ frames := 1, cells := 0, slots := 0, locals := 21 }) (va_Pc [.ref (ad 1), .int a1, .int a2] (fun U => U.heap.size = sz ∧ va_P D vwCl (X cA ad S) U.heap ∧ va_K D vwCl (tysX cA) U)) (va_Qi (fun (r : Int32) (_ : Unit) => f_Law_isBarred a1 a2 S = some r ∧ (r = 0 ∨ r = 1)) (fun (_ : Unit) t => va_P D vwCl (X cA ad S) t.heap ∧ va_K D vwCl (tysX cA) t) (AS ad sz)) 0 0 (AS ad sz) := by
  refine Met.ofW (cc := b_Law_isBarred) (maxL := 3) (ret := (some .boolean)) (by decide) rfl ?_
  intro p e s m args below meth c s₁ B hml hv
  obtain ⟨rfl, hsz, hP, hK⟩ := hv
  have hx := B.exec
  have hb := B.bytes
  have hr := B.returns
  have hts := atoms_spec (ws := w_Law_isBarred) B.pre
  have ht := fun w h => hts w (List.mem_cons_of_mem _ h)
  have hown : s.vm.findClass R_Law = some m.cls := findClass_of_methodNamed B.named
  have hlocks := B.notSynchronized
  subst hsz
  have hAd : ∀ q, q < NP → AS ad s.heap.size (ad q) := fun q h => Or.inl ⟨q, h, rfl⟩
  have hA : ∀ q : Nat, s.heap.size ≤ q → AS ad s.heap.size q := fun q h => Or.inr h
  have hAS : ∀ z : Nat, s.heap.size ≤ z → ∀ q : Nat, AS ad z q → AS ad s.heap.size q := fun z h q hq => hq.elim Or.inl (fun g => Or.inr (Nat.le_trans h g))
  generalize hAe : AS ad s.heap.size = A at hAd hA hAS ⊢
  have hS : va_S A s.heap s.heap [] := va_S.rf
  have hl := lv_entry ([.ref (ad 1), .int a1, .int a2]) (n := 3) (Nat.le_of_ble_eq_true rfl)
  rw [lg_entry_eq]
  generalize (lg_sl ([.ref (ad 1), .int a1, .int a2]) ++ List.replicate (3 - (lg_sl ([.ref (ad 1), .int a1, .int a2])).length) Slot.unset).toArray = ls at hl ⊢
  have hl : lv_has ls 3 [(0, .ref (ad 1)), (1, .int a1), (2, .int a2)] := hl
  have hf := (f_Law_isBarred_s a1 a2 S).symm
  generalize hQ : MQ below _ _ s _ _ _ = Q
  refine lv_aload_n hx hb d_Law_isBarred_0 rfl (lv_at hl 0 rfl) ?_
  refine va_get (D := D) (ci := 1) (v := .long (S.2 1 4)) (C := R_Law) (T := T_Law) (N := 5) hx hb ht i_Law hown hK hP 1 Xa_1 rfl 4 (by decide) (ht _ mF_Law_24) (fun _ h9 => h9) rfl d_Law_isBarred_1 ?_
  refine lv_iload_n hx hb d_Law_isBarred_4 rfl (lv_at hl 1 rfl) ?_
  refine lv_iload_n hx hb d_Law_isBarred_5 rfl (lv_at hl 2 rfl) ?_
  refine va_calll (va_runS (As := [.int a1, .int a2]) (rest := [.long (S.2 1 4)]) ⟨hx, hb, hml, hown, ht⟩ (c_Law_pairBit l D cA ad hI s.heap.size a1 a2 S (fun hn => hs (by rw [hn] at hf; exact hf.symm))) (va_cwS 2 ht (good_G (gS mM_Law_28 mS_Law_pairBit mN_Law mk_Law_pairBit)) rfl rfl rfl (by decide +kernel) ⟨Nat.le_of_ble_eq_true rfl, Nat.le_of_ble_eq_true rfl⟩) ⟨fun a U g mk q => ⟨q.1, q.2.1, q.2.2.1, va_K.moved (u := U) (U := U.calling g mk a) (Vm.Alike.refl U.vm) q.2.2.2⟩, fun U hU hW => ⟨rfl, by rw [hU], by rw [hU]; exact hP, va_K.moved hW.alike hK⟩⟩ rfl rfl hl.1 rfl (lv_room (Nat.le_of_ble_eq_true rfl)) d_Law_isBarred_6 ⟨Nat.le_of_ble_eq_true rfl, Nat.le_of_ble_eq_true rfl⟩) hS (fun q _ h => hAS _ hS.1 q h) (fun q h => hAS _ hS.1 q h) (fun r1 _ t H locs ht9 hvm hw hB hz1 hk1 hS => ?_)
  obtain ⟨hP, hK9⟩ := hB
  rw [ht9] at hP
  rw [hw, Option.bind_some] at hf
  refine lv_land hx hb d_Law_isBarred_9 ?_
  refine lv_lconst (v := 0) hx hb d_Law_isBarred_10 (by decide) ?_
  refine W.lcmp hx hb d_Law_isBarred_11 ?_
  refine lv_if_eq (tgt := 19) hx hb d_Law_isBarred_12 (by decide) (fun c1 => ?_) (fun c1 => ?_)
  · rw [if_pos c1] at hf
    refine lv_iconst (v := 0) hx hb d_Law_isBarred_19 (by decide) ?_
    rw [← hQ]
    have hz : (0 : Int32) = 0 ∨ (0 : Int32) = 1 := Or.inl rfl
    exact W.zret (v := (0 : Int32)) hx hb hr (zb_n hz) (fun t ht hW => ⟨⟨(0 : Int32), (), rfl, ⟨hf.symm, hz⟩, by rw [ht]; exact hP, va_K.moved hW.alike hK⟩, hS.F ht⟩) hS.2.2 d_Law_isBarred_20
  · rw [if_neg c1] at hf
    refine lv_iconst (v := 1) hx hb d_Law_isBarred_15 (by decide) ?_
    refine lv_goto (tgt := 20) hx hb d_Law_isBarred_16 (by decide) ?_
    rw [← hQ]
    have hz : (1 : Int32) = 0 ∨ (1 : Int32) = 1 := Or.inr rfl
    exact W.zret (v := (1 : Int32)) hx hb hr (zb_n hz) (fun t ht hW => ⟨⟨(1 : Int32), (), rfl, ⟨hf.symm, hz⟩, by rw [ht]; exact hP, va_K.moved hW.alike hK⟩, hS.F ht⟩) hS.2.2 d_Law_isBarred_20
set_option maxHeartbeats 4000000 in
set_option maxRecDepth 100000 in
theorem c_Law_setBarred (l : Launch) (D : va_G) (cA : Nat → ClassId) (ad : Nat → Nat) (hI : InjA ad) (sz : Nat) (a1 : Int32) (a2 : Int32) (a3 : Int32) (S : SS) (hs : f_Law_setBarred a1 a2 a3 S ≠ none) : Met l y_Law_setBarred w_Law_setBarred ({ frames := 1, cells := 0, slots := 0, locals := 21 }) (va_Pc [.ref (ad 1), .int a1, .int a2, .int a3] (fun U => U.heap.size = sz ∧ va_P D vwCl (X cA ad S) U.heap ∧ va_K D vwCl (tysX cA) U)) (va_Qv (fun (u : SS) => f_Law_setBarred a1 a2 a3 S = some u) (fun (u : SS) t => va_P D vwCl (X cA ad u) t.heap ∧ va_K D vwCl (tysX cA) t) (AS ad sz)) 0 0 (AS ad sz) := by
  refine Met.ofW (cc := b_Law_setBarred) (maxL := 4) (ret := none) (by decide) rfl ?_
  intro p e s m args below meth c s₁ B hml hv
  obtain ⟨rfl, hsz, hP, hK⟩ := hv
  have hx := B.exec
  have hb := B.bytes
  have hr := B.returns
  have hts := atoms_spec (ws := w_Law_setBarred) B.pre
  have ht := fun w h => hts w (List.mem_cons_of_mem _ h)
  have hown : s.vm.findClass R_Law = some m.cls := findClass_of_methodNamed B.named
  have hlocks := B.notSynchronized
  subst hsz
  have hAd : ∀ q, q < NP → AS ad s.heap.size (ad q) := fun q h => Or.inl ⟨q, h, rfl⟩
  have hA : ∀ q : Nat, s.heap.size ≤ q → AS ad s.heap.size q := fun q h => Or.inr h
  have hAS : ∀ z : Nat, s.heap.size ≤ z → ∀ q : Nat, AS ad z q → AS ad s.heap.size q := fun z h q hq => hq.elim Or.inl (fun g => Or.inr (Nat.le_trans h g))
  generalize hAe : AS ad s.heap.size = A at hAd hA hAS ⊢
  have hS : va_S A s.heap s.heap [] := va_S.rf
  have hl := lv_entry ([.ref (ad 1), .int a1, .int a2, .int a3]) (n := 4) (Nat.le_of_ble_eq_true rfl)
  rw [lg_entry_eq]
  generalize (lg_sl ([.ref (ad 1), .int a1, .int a2, .int a3]) ++ List.replicate (4 - (lg_sl ([.ref (ad 1), .int a1, .int a2, .int a3])).length) Slot.unset).toArray = ls at hl ⊢
  have hl : lv_has ls 4 [(0, .ref (ad 1)), (1, .int a1), (2, .int a2), (3, .int a3)] := hl
  have hf := (f_Law_setBarred_s a1 a2 a3 S).symm
  generalize hQ : MQ below _ _ s _ _ _ = Q
  refine lv_iload_n hx hb d_Law_setBarred_0 rfl (lv_at hl 3 rfl) ?_
  refine lv_if_eq (tgt := 21) hx hb d_Law_setBarred_1 (by decide) (fun c1 => ?_) (fun c1 => ?_)
  · rw [if_pos c1] at hf
    refine lv_aload_n hx hb d_Law_setBarred_21 rfl (lv_at hl 0 rfl) ?_
    refine lv_dup hx hb d_Law_setBarred_22 rfl ?_
    refine va_get (D := D) (ci := 1) (v := .long (S.2 1 4)) (C := R_Law) (T := T_Law) (N := 5) hx hb ht i_Law hown hK hP 1 Xa_1 rfl 4 (by decide) (ht _ mF_Law_24) (fun _ h9 => h9) rfl d_Law_setBarred_23 ?_
    refine lv_iload_n hx hb d_Law_setBarred_26 rfl (lv_at hl 1 rfl) ?_
    refine lv_iload_n hx hb d_Law_setBarred_27 rfl (lv_at hl 2 rfl) ?_
    refine va_calll (va_runS (As := [.int a1, .int a2]) (rest := [.long (S.2 1 4), .ref (ad 1)]) ⟨hx, hb, hml, hown, ht⟩ (c_Law_pairBit l D cA ad hI s.heap.size a1 a2 S (fun hn => hs (by rw [hn] at hf; exact hf.symm))) (va_cwS 2 ht (good_G (gS mM_Law_28 mS_Law_pairBit mN_Law mk_Law_pairBit)) rfl rfl rfl (by decide +kernel) ⟨Nat.le_of_ble_eq_true rfl, Nat.le_of_ble_eq_true rfl⟩) ⟨fun a U g mk q => ⟨q.1, q.2.1, q.2.2.1, va_K.moved (u := U) (U := U.calling g mk a) (Vm.Alike.refl U.vm) q.2.2.2⟩, fun U hU hW => ⟨rfl, by rw [hU], by rw [hU]; exact hP, va_K.moved hW.alike hK⟩⟩ rfl rfl hl.1 rfl (lv_room (Nat.le_of_ble_eq_true rfl)) d_Law_setBarred_28 ⟨Nat.le_of_ble_eq_true rfl, Nat.le_of_ble_eq_true rfl⟩) hS (fun q _ h => hAS _ hS.1 q h) (fun q h => hAS _ hS.1 q h) (fun r1 _ t H locs ht9 hvm hw hB hz1 hk1 hS => ?_)
    obtain ⟨hP, hK9⟩ := hB
    rw [ht9] at hP
    rw [hw, Option.bind_some] at hf
    refine lv_ldc2 (v := (-1)) hx hb hown (ht _ mC_Law_32) d_Law_setBarred_31 ?_
    refine lv_lxor hx hb d_Law_setBarred_34 ?_
    refine lv_land hx hb d_Law_setBarred_35 ?_
    refine va_put (D := D) (ci := 1) (v := .long ((S.2 1 4) &&& (r1 ^^^ (-1 : Int64)))) (ty := .long) (C := R_Law) (T := T_Law) (N := 5) hx hb ht i_Law t_Law t_Law_ok n_Law hown hK hP (X_D hI hAd) hS 1 Xa_1 rfl 4 (by decide) (ht _ mF_Law_24) (fun _ h9 => h9) rfl (by decide +kernel) rfl rfl (Nat.le_of_ble_eq_true rfl) d_Law_setBarred_36 (fun H locs hP _ hS => ?_)
    replace hP := X_putL (by decide) hP rfl
    rw [← hQ]
    exact W.vret hx hb hr (fun t ht hW => ⟨⟨wL S 1 4 ((S.2 1 4) &&& (r1 ^^^ (-1 : Int64))), rfl, hf.symm, by rw [ht]; exact hP, va_K.moved hW.alike hK⟩, hS.F ht⟩) hS.2.2 d_Law_setBarred_39
  · rw [if_neg c1] at hf
    refine lv_aload_n hx hb d_Law_setBarred_4 rfl (lv_at hl 0 rfl) ?_
    refine lv_dup hx hb d_Law_setBarred_5 rfl ?_
    refine va_get (D := D) (ci := 1) (v := .long (S.2 1 4)) (C := R_Law) (T := T_Law) (N := 5) hx hb ht i_Law hown hK hP 1 Xa_1 rfl 4 (by decide) (ht _ mF_Law_24) (fun _ h9 => h9) rfl d_Law_setBarred_6 ?_
    refine lv_iload_n hx hb d_Law_setBarred_9 rfl (lv_at hl 1 rfl) ?_
    refine lv_iload_n hx hb d_Law_setBarred_10 rfl (lv_at hl 2 rfl) ?_
    refine va_calll (va_runS (As := [.int a1, .int a2]) (rest := [.long (S.2 1 4), .ref (ad 1)]) ⟨hx, hb, hml, hown, ht⟩ (c_Law_pairBit l D cA ad hI s.heap.size a1 a2 S (fun hn => hs (by rw [hn] at hf; exact hf.symm))) (va_cwS 2 ht (good_G (gS mM_Law_28 mS_Law_pairBit mN_Law mk_Law_pairBit)) rfl rfl rfl (by decide +kernel) ⟨Nat.le_of_ble_eq_true rfl, Nat.le_of_ble_eq_true rfl⟩) ⟨fun a U g mk q => ⟨q.1, q.2.1, q.2.2.1, va_K.moved (u := U) (U := U.calling g mk a) (Vm.Alike.refl U.vm) q.2.2.2⟩, fun U hU hW => ⟨rfl, by rw [hU], by rw [hU]; exact hP, va_K.moved hW.alike hK⟩⟩ rfl rfl hl.1 rfl (lv_room (Nat.le_of_ble_eq_true rfl)) d_Law_setBarred_11 ⟨Nat.le_of_ble_eq_true rfl, Nat.le_of_ble_eq_true rfl⟩) hS (fun q _ h => hAS _ hS.1 q h) (fun q h => hAS _ hS.1 q h) (fun r2 _ t H locs ht9 hvm hw hB hz1 hk1 hS => ?_)
    obtain ⟨hP, hK9⟩ := hB
    rw [ht9] at hP
    rw [hw, Option.bind_some] at hf
    refine lv_lor hx hb d_Law_setBarred_14 ?_
    refine va_put (D := D) (ci := 1) (v := .long ((S.2 1 4) ||| r2)) (ty := .long) (C := R_Law) (T := T_Law) (N := 5) hx hb ht i_Law t_Law t_Law_ok n_Law hown hK hP (X_D hI hAd) hS 1 Xa_1 rfl 4 (by decide) (ht _ mF_Law_24) (fun _ h9 => h9) rfl (by decide +kernel) rfl rfl (Nat.le_of_ble_eq_true rfl) d_Law_setBarred_15 (fun H locs hP _ hS => ?_)
    replace hP := X_putL (by decide) hP rfl
    refine lv_goto (tgt := 39) hx hb d_Law_setBarred_18 (by decide) ?_
    rw [← hQ]
    exact W.vret hx hb hr (fun t ht hW => ⟨⟨wL S 1 4 ((S.2 1 4) ||| r2), rfl, hf.symm, by rw [ht]; exact hP, va_K.moved hW.alike hK⟩, hS.F ht⟩) hS.2.2 d_Law_setBarred_39
set_option maxHeartbeats 4000000 in
set_option maxRecDepth 100000 in
theorem c_Law_mayFollow (l : Launch) (D : va_G) (cA : Nat → ClassId) (ad : Nat → Nat) (hI : InjA ad) (sz : Nat) (a1 : Int32) (a2 : Int32) (S : SS) (hs : f_Law_mayFollow a1 a2 S ≠ none) : Met l y_Law_mayFollow w_Law_mayFollow ({ frames := 2, cells := 0, slots := 0, locals := 43 }) (va_Pc [.ref (ad 1), .int a1, .int a2] (fun U => U.heap.size = sz ∧ va_P D vwCl (X cA ad S) U.heap ∧ va_K D vwCl (tysX cA) U)) (va_Qi (fun (r : Int32) (_ : Unit) => f_Law_mayFollow a1 a2 S = some r ∧ (r = 0 ∨ r = 1)) (fun (_ : Unit) t => va_P D vwCl (X cA ad S) t.heap ∧ va_K D vwCl (tysX cA) t) (AS ad sz)) 0 0 (AS ad sz) := by
  refine Met.ofW (cc := b_Law_mayFollow) (maxL := 3) (ret := (some .boolean)) (by decide) rfl ?_
  intro p e s m args below meth c s₁ B hml hv
  obtain ⟨rfl, hsz, hP, hK⟩ := hv
  have hx := B.exec
  have hb := B.bytes
  have hr := B.returns
  have hts := atoms_spec (ws := w_Law_mayFollow) B.pre
  have ht := fun w h => hts w (List.mem_cons_of_mem _ h)
  have hown : s.vm.findClass R_Law = some m.cls := findClass_of_methodNamed B.named
  have hlocks := B.notSynchronized
  subst hsz
  have hAd : ∀ q, q < NP → AS ad s.heap.size (ad q) := fun q h => Or.inl ⟨q, h, rfl⟩
  have hA : ∀ q : Nat, s.heap.size ≤ q → AS ad s.heap.size q := fun q h => Or.inr h
  have hAS : ∀ z : Nat, s.heap.size ≤ z → ∀ q : Nat, AS ad z q → AS ad s.heap.size q := fun z h q hq => hq.elim Or.inl (fun g => Or.inr (Nat.le_trans h g))
  generalize hAe : AS ad s.heap.size = A at hAd hA hAS ⊢
  have hS : va_S A s.heap s.heap [] := va_S.rf
  have hl := lv_entry ([.ref (ad 1), .int a1, .int a2]) (n := 3) (Nat.le_of_ble_eq_true rfl)
  rw [lg_entry_eq]
  generalize (lg_sl ([.ref (ad 1), .int a1, .int a2]) ++ List.replicate (3 - (lg_sl ([.ref (ad 1), .int a1, .int a2])).length) Slot.unset).toArray = ls at hl ⊢
  have hl : lv_has ls 3 [(0, .ref (ad 1)), (1, .int a1), (2, .int a2)] := hl
  have hf := (f_Law_mayFollow_s a1 a2 S).symm
  generalize hQ : MQ below _ _ s _ _ _ = Q
  refine lv_iload_n hx hb d_Law_mayFollow_0 rfl (lv_at hl 2 rfl) ?_
  refine lv_iload_n hx hb d_Law_mayFollow_1 rfl (lv_at hl 1 rfl) ?_
  refine lv_isub hx hb d_Law_mayFollow_2 ?_
  refine va_mabs hx hb (hml.trans hl.1.symm) hown (ht _ mM_Law_34) (ht _ mS_Math_abs) (ht _ mN_Math) (ht _ mk_Math_abs) (Nat.le_of_ble_eq_true rfl) (Nat.le_of_ble_eq_true rfl) (Nat.le_of_ble_eq_true rfl) (Nat.le_of_ble_eq_true rfl) d_Law_mayFollow_3 ?_
  refine lv_aload_n hx hb d_Law_mayFollow_6 rfl (lv_at hl 0 rfl) ?_
  refine va_get (D := D) (ci := 1) (v := .int (S.1 1 2)) (C := R_Law) (T := T_Law) (N := 5) hx hb ht i_Law hown hK hP 1 Xa_1 rfl 2 (by decide) (ht _ mF_Law_9) (fun _ h9 => h9) rfl d_Law_mayFollow_7 ?_
  refine lv_icmp_gt (tgt := 26) hx hb d_Law_mayFollow_10 (by decide) (fun c1 => ?_) (fun c1 => ?_)
  · rw [if_pos c1] at hf
    refine lv_iconst (v := 0) hx hb d_Law_mayFollow_26 (by decide) ?_
    rw [← hQ]
    have hz : (0 : Int32) = 0 ∨ (0 : Int32) = 1 := Or.inl rfl
    exact W.zret (v := (0 : Int32)) hx hb hr (zb_n hz) (fun t ht hW => ⟨⟨(0 : Int32), (), rfl, ⟨hf.symm, hz⟩, by rw [ht]; exact hP, va_K.moved hW.alike hK⟩, hS.F ht⟩) hS.2.2 d_Law_mayFollow_27
  · rw [if_neg c1] at hf
    refine lv_aload_n hx hb d_Law_mayFollow_13 rfl (lv_at hl 0 rfl) ?_
    refine lv_iload_n hx hb d_Law_mayFollow_14 rfl (lv_at hl 1 rfl) ?_
    refine lv_iload_n hx hb d_Law_mayFollow_15 rfl (lv_at hl 2 rfl) ?_
    refine va_calli (va_runV (As := [.int a1, .int a2]) (rest := []) ⟨hx, hb, hml, hown, ht⟩ (c_Law_isBarred l D cA ad hI s.heap.size a1 a2 S (fun hn => hs (by rw [hn] at hf; exact hf.symm))) (cwV 2 ht (good_G (gV mM_Law_40 mI_Law_isBarred mV_Law_isBarred mN_Law mk_Law_isBarred)) rfl rfl rfl (by decide +kernel) ⟨Nat.le_of_ble_eq_true rfl, Nat.le_of_ble_eq_true rfl⟩) ⟨fun a U g mk q => ⟨q.1, q.2.1, q.2.2.1, va_K.moved (u := U) (U := U.calling g mk a) (Vm.Alike.refl U.vm) q.2.2.2⟩, va_recv hK hP (ci := 1) (q0 := 1) rfl Xa_1, fun U hU hW => ⟨rfl, by rw [hU], by rw [hU]; exact hP, va_K.moved hW.alike hK⟩⟩ rfl rfl hl.1 rfl (lv_room (Nat.le_of_ble_eq_true rfl)) d_Law_mayFollow_16 ⟨Nat.le_of_ble_eq_true rfl, Nat.le_of_ble_eq_true rfl⟩) hS (fun q _ h => hAS _ hS.1 q h) (fun q h => hAS _ hS.1 q h) (fun r1 _ t H locs ht9 hvm hw hB hz1 hk1 hS => ?_)
    obtain ⟨hP, hK9⟩ := hB
    rw [ht9] at hP
    obtain ⟨hw, hz1⟩ := hw
    rw [hw, Option.bind_some] at hf
    refine lv_if_ne (tgt := 26) hx hb d_Law_mayFollow_19 (by decide) (fun c2 => ?_) (fun c2 => ?_)
    · rw [if_neg c2] at hf
      refine lv_iconst (v := 0) hx hb d_Law_mayFollow_26 (by decide) ?_
      rw [← hQ]
      have hz : (0 : Int32) = 0 ∨ (0 : Int32) = 1 := Or.inl rfl
      exact W.zret (v := (0 : Int32)) hx hb hr (zb_n hz) (fun t ht hW => ⟨⟨(0 : Int32), (), rfl, ⟨hf.symm, hz⟩, by rw [ht]; exact hP, va_K.moved hW.alike hK⟩, hS.F ht⟩) hS.2.2 d_Law_mayFollow_27
    · rw [if_pos c2] at hf
      refine lv_iconst (v := 1) hx hb d_Law_mayFollow_22 (by decide) ?_
      refine lv_goto (tgt := 27) hx hb d_Law_mayFollow_23 (by decide) ?_
      rw [← hQ]
      have hz : (1 : Int32) = 0 ∨ (1 : Int32) = 1 := Or.inr rfl
      exact W.zret (v := (1 : Int32)) hx hb hr (zb_n hz) (fun t ht hW => ⟨⟨(1 : Int32), (), rfl, ⟨hf.symm, hz⟩, by rw [ht]; exact hP, va_K.moved hW.alike hK⟩, hS.F ht⟩) hS.2.2 d_Law_mayFollow_27
set_option maxHeartbeats 4000000 in
set_option maxRecDepth 100000 in
theorem c_Board_bit (l : Launch) (D : va_G) (cA : Nat → ClassId) (ad : Nat → Nat) (hI : InjA ad) (sz : Nat) (a0 : Int32) (a1 : Int32) (S : SS) (hs : f_Board_bit a0 a1 S ≠ none) : Met l y_Board_bit w_Board_bit ({ frames := 0, cells := 0, slots := 0, locals := 0 }) (va_Pc [.int a0, .int a1] (fun U => U.heap.size = sz ∧ va_P D vwCl (X cA ad S) U.heap ∧ va_K D vwCl (tysX cA) U)) (va_Ql (fun (r : Int64) (_ : Unit) => f_Board_bit a0 a1 S = some r) (fun (_ : Unit) t => va_P D vwCl (X cA ad S) t.heap ∧ va_K D vwCl (tysX cA) t) (AS ad sz)) 0 0 (AS ad sz) := by
  refine Met.ofW (cc := b_Board_bit) (maxL := 2) (ret := (some .long)) (by decide) rfl ?_
  intro p e s m args below meth c s₁ B hml hv
  obtain ⟨rfl, hsz, hP, hK⟩ := hv
  have hx := B.exec
  have hb := B.bytes
  have hr := B.returns
  have hts := atoms_spec (ws := w_Board_bit) B.pre
  have ht := fun w h => hts w (List.mem_cons_of_mem _ h)
  have hown : s.vm.findClass R_Board = some m.cls := findClass_of_methodNamed B.named
  have hlocks := B.notSynchronized
  subst hsz
  have hAd : ∀ q, q < NP → AS ad s.heap.size (ad q) := fun q h => Or.inl ⟨q, h, rfl⟩
  have hA : ∀ q : Nat, s.heap.size ≤ q → AS ad s.heap.size q := fun q h => Or.inr h
  have hAS : ∀ z : Nat, s.heap.size ≤ z → ∀ q : Nat, AS ad z q → AS ad s.heap.size q := fun z h q hq => hq.elim Or.inl (fun g => Or.inr (Nat.le_trans h g))
  generalize hAe : AS ad s.heap.size = A at hAd hA hAS ⊢
  have hS : va_S A s.heap s.heap [] := va_S.rf
  have hl := lv_entry ([.int a0, .int a1]) (n := 2) (Nat.le_of_ble_eq_true rfl)
  rw [lg_entry_eq]
  generalize (lg_sl ([.int a0, .int a1]) ++ List.replicate (2 - (lg_sl ([.int a0, .int a1])).length) Slot.unset).toArray = ls at hl ⊢
  have hl : lv_has ls 2 [(0, .int a0), (1, .int a1)] := hl
  have hf := (f_Board_bit_s a0 a1 S).symm
  generalize hQ : MQ below _ _ s _ _ _ = Q
  refine lv_lconst (v := 1) hx hb d_Board_bit_0 (by decide) ?_
  refine lv_iload_n hx hb d_Board_bit_1 rfl (lv_at hl 0 rfl) ?_
  refine lv_bipush (v := 8) hx hb d_Board_bit_2 (by decide) ?_
  refine lv_imul hx hb d_Board_bit_4 ?_
  refine lv_iload_n hx hb d_Board_bit_5 rfl (lv_at hl 1 rfl) ?_
  refine lv_iadd hx hb d_Board_bit_6 ?_
  refine lv_lshl hx hb d_Board_bit_7 rfl ?_
  rw [← hQ]
  exact W.lret (v := (1 : Int64) <<< (((a0 * (8 : Int32)) + a1).toInt64 &&& 63)) hx hb hr (fun t ht hW => ⟨⟨(1 : Int64) <<< (((a0 * (8 : Int32)) + a1).toInt64 &&& 63), (), rfl, hf.symm, by rw [ht]; exact hP, va_K.moved hW.alike hK⟩, hS.F ht⟩) hS.2.2 d_Board_bit_8
set_option maxHeartbeats 4000000 in
set_option maxRecDepth 100000 in
theorem c_Board_rowFromCuts (l : Launch) (D : va_G) (cA : Nat → ClassId) (ad : Nat → Nat) (hI : InjA ad) (sz : Nat) (a1 : Int32) (S : SS) (hs : f_Board_rowFromCuts a1 S ≠ none) : Met l y_Board_rowFromCuts w_Board_rowFromCuts ({ frames := 1, cells := 0, slots := 0, locals := 21 }) (va_Pc [.ref (ad 2), .int a1] (fun U => U.heap.size = sz ∧ va_P D vwCl (X cA ad S) U.heap ∧ va_K D vwCl (tysX cA) U)) (va_Ql (fun (r : Int64) (_ : Unit) => f_Board_rowFromCuts a1 S = some r) (fun (_ : Unit) t => va_P D vwCl (X cA ad S) t.heap ∧ va_K D vwCl (tysX cA) t) (AS ad sz)) 0 0 (AS ad sz) := by
  refine Met.ofW (cc := b_Board_rowFromCuts) (maxL := 5) (ret := (some .long)) (by decide) rfl ?_
  intro p e s m args below meth c s₁ B hml hv
  obtain ⟨rfl, hsz, hP, hK⟩ := hv
  have hx := B.exec
  have hb := B.bytes
  have hr := B.returns
  have hts := atoms_spec (ws := w_Board_rowFromCuts) B.pre
  have ht := fun w h => hts w (List.mem_cons_of_mem _ h)
  have hown : s.vm.findClass R_Board = some m.cls := findClass_of_methodNamed B.named
  have hlocks := B.notSynchronized
  subst hsz
  have hAd : ∀ q, q < NP → AS ad s.heap.size (ad q) := fun q h => Or.inl ⟨q, h, rfl⟩
  have hA : ∀ q : Nat, s.heap.size ≤ q → AS ad s.heap.size q := fun q h => Or.inr h
  have hAS : ∀ z : Nat, s.heap.size ≤ z → ∀ q : Nat, AS ad z q → AS ad s.heap.size q := fun z h q hq => hq.elim Or.inl (fun g => Or.inr (Nat.le_trans h g))
  generalize hAe : AS ad s.heap.size = A at hAd hA hAS ⊢
  have hS : va_S A s.heap s.heap [] := va_S.rf
  have hl := lv_entry ([.ref (ad 2), .int a1]) (n := 5) (Nat.le_of_ble_eq_true rfl)
  rw [lg_entry_eq]
  generalize (lg_sl ([.ref (ad 2), .int a1]) ++ List.replicate (5 - (lg_sl ([.ref (ad 2), .int a1])).length) Slot.unset).toArray = ls at hl ⊢
  have hl : lv_has ls 5 [(0, .ref (ad 2)), (1, .int a1)] := hl
  have hf := (f_Board_rowFromCuts_s a1 S).symm
  generalize hQ : MQ below _ _ s _ _ _ = Q
  refine lv_lconst (v := 0) hx hb d_Board_rowFromCuts_0 (by decide) ?_
  refine lv_lstore_n (lv' := [(2, .long (0 : Int64)), (0, .ref (ad 2)), (1, .int a1)]) hx hb d_Board_rowFromCuts_1 rfl hl (by decide) rfl (fun ls hl => ?_)
  refine lv_iconst (v := 0) hx hb d_Board_rowFromCuts_2 (by decide) ?_
  refine lv_istore (lv' := [(4, .int (0 : Int32)), (2, .long (0 : Int64)), (0, .ref (ad 2)), (1, .int a1)]) hx hb d_Board_rowFromCuts_3 hl (by decide) rfl (fun ls hl => ?_)
  have lp5_1 : ∀ (n : Nat) (y2_1 : Int64) (x4_1 : Int32) (H : Heap) (locs : List Loc) (ls : Array Slot), va_P D vwCl (X cA ad S) H → va_S A s.heap H locs → lv_has ls 5 [(0, .ref (ad 2)), (1, .int a1), (2, .long y2_1), (4, .int x4_1)] → f_Board_rowFromCuts_L5 a1 n y2_1 x4_1 S ≠ none →
      (∀ v : Int64, f_Board_rowFromCuts_L5 a1 n y2_1 x4_1 S = some v → ∀ (H : Heap) (locs : List Loc) (ls : Array Slot), va_P D vwCl (X cA ad S) H → va_S A s.heap H locs → lv_has ls 5 [(0, .ref (ad 2)), (1, .int a1), (2, .long v)] → W p l e (headSpec w_Board_rowFromCuts ({ frames := 1, cells := 0, slots := 0, locals := 21 })).room s m ([.ref (ad 2), .int a1] : List Value).toArray below meth c H locs 0 0 Q (F0 m 40 ls [])) →
      W p l e (headSpec w_Board_rowFromCuts ({ frames := 1, cells := 0, slots := 0, locals := 21 })).room s m ([.ref (ad 2), .int a1] : List Value).toArray below meth c H locs 0 0 Q (F0 m 5 ls []) := by
    intro n
    induction n with
    | zero => intro y2_1 x4_1 H locs ls hP hS hl hs; exact absurd rfl hs
    | succ n ih =>
      intro y2_1 x4_1 H locs ls hP hS hl hs hexit
      have hf := (f_Board_rowFromCuts_L5_s a1 n y2_1 x4_1 S).symm
      refine lv_iload hx hb d_Board_rowFromCuts_5 (lv_at hl 3 rfl) ?_
      refine lv_aload_n hx hb d_Board_rowFromCuts_7 rfl (lv_at hl 0 rfl) ?_
      refine va_get (D := D) (ci := 2) (v := .ref (ad 1)) (C := R_Board) (T := T_Board) (N := 7) hx hb ht i_Board hown hK hP 2 Xa_2 rfl 0 (by decide) (ht _ mF_Board_29) (fun _ h9 => h9) rfl d_Board_rowFromCuts_8 ?_
      refine va_get (D := D) (ci := 1) (v := .int (S.1 1 0)) (C := R_Law) (T := T_Law) (N := 5) hx hb ht i_Law hown hK hP 1 Xa_1 rfl 0 (by decide) (ht _ mF_Board_79) (fun _ h9 => h9) rfl d_Board_rowFromCuts_11 ?_
      refine lv_icmp_ge (tgt := 40) hx hb d_Board_rowFromCuts_14 (by decide) (fun c1 => ?_) (fun c1 => ?_)
      · rw [if_pos c1] at hf
        exact hexit _ hf.symm _ _ _ hP hS (lv_sub hl [0, 1, 2] rfl)
      · rw [if_neg c1] at hf
        refine lv_lload_n hx hb d_Board_rowFromCuts_17 rfl (lv_at hl 2 rfl) ?_
        refine lv_iload hx hb d_Board_rowFromCuts_18 (lv_at hl 3 rfl) ?_
        refine lv_aload_n hx hb d_Board_rowFromCuts_20 rfl (lv_at hl 0 rfl) ?_
        refine va_get (D := D) (ci := 2) (v := .ref (ad 6)) (C := R_Board) (T := T_Board) (N := 7) hx hb ht i_Board hown hK hP 2 Xa_2 rfl 4 (by decide) (ht _ mF_Board_17) (fun _ h9 => h9) rfl d_Board_rowFromCuts_21 ?_
        refine lv_iload_n hx hb d_Board_rowFromCuts_24 rfl (lv_at hl 1 rfl) ?_
        by_cases b2 : oob a1 8
        · rw [if_pos b2] at hf; exact absurd hf.symm hs
        rw [if_neg b2] at hf
        refine gz_aald hx hb hK hP 6 2 Xa_6 rfl b2 d_Board_rowFromCuts_25 ?_
        rw [X_row b2]
        refine lv_iload hx hb d_Board_rowFromCuts_26 (lv_at hl 3 rfl) ?_
        by_cases b3 : oob x4_1 6
        · rw [if_pos b3] at hf; exact absurd hf.symm hs
        rw [if_neg b3] at hf
        refine va_iald (f := S.1 (10 + a1.toNatClampNeg)) hx hb hK hP (10 + a1.toNatClampNeg) 0 (X_rowat6 b2) rfl b3 d_Board_rowFromCuts_28 ?_
        refine va_calll (va_runS (As := [.int x4_1, .int (S.1 (10 + a1.toNatClampNeg) x4_1.toNatClampNeg)]) (rest := [.long y2_1]) ⟨hx, hb, hml, hown, ht⟩ (c_Board_bit l D cA ad hI H.size x4_1 (S.1 (10 + a1.toNatClampNeg) x4_1.toNatClampNeg) S (fun hn => hs (by rw [hn] at hf; exact hf.symm))) (va_cwS 2 ht (good_G (gS mM_Board_37 mS_Board_bit mN_Board mk_Board_bit)) rfl rfl rfl (by decide +kernel) ⟨Nat.le_of_ble_eq_true rfl, Nat.le_of_ble_eq_true rfl⟩) ⟨fun a U g mk q => ⟨q.1, q.2.1, q.2.2.1, va_K.moved (u := U) (U := U.calling g mk a) (Vm.Alike.refl U.vm) q.2.2.2⟩, fun U hU hW => ⟨rfl, by rw [hU], by rw [hU]; exact hP, va_K.moved hW.alike hK⟩⟩ rfl rfl hl.1 rfl (lv_room (Nat.le_of_ble_eq_true rfl)) d_Board_rowFromCuts_29 ⟨Nat.le_of_ble_eq_true rfl, Nat.le_of_ble_eq_true rfl⟩) hS (fun q _ h => hAS _ hS.1 q h) (fun q h => hAS _ hS.1 q h) (fun r1 _ t H locs ht9 hvm hw hB hz1 hk1 hS => ?_)
        obtain ⟨hP, hK9⟩ := hB
        rw [ht9] at hP
        rw [hw, Option.bind_some] at hf
        refine lv_lor hx hb d_Board_rowFromCuts_32 ?_
        refine lv_lstore_n (lv' := [(2, .long (y2_1 ||| r1)), (0, .ref (ad 2)), (1, .int a1), (4, .int x4_1)]) hx hb d_Board_rowFromCuts_33 rfl hl (by decide) rfl (fun ls hl => ?_)
        refine lv_iinc (v := x4_1 + 1) (lv' := [(4, .int (x4_1 + 1)), (2, .long (y2_1 ||| r1)), (0, .ref (ad 2)), (1, .int a1)]) hx hb d_Board_rowFromCuts_34 hl (k := 3) rfl rfl (by decide) rfl (fun ls hl => ?_)
        refine lv_goto (tgt := 5) hx hb d_Board_rowFromCuts_37 (by decide) ?_
        exact ih (y2_1 ||| r1) (x4_1 + 1) _ _ _ hP hS (lv_sub hl [2, 3, 1, 0] rfl) (fun hn => hs (hf.symm.trans hn)) (fun v ho => hexit v (hf.symm.trans ho))
  refine lp5_1 FU (0 : Int64) (0 : Int32) _ _ _ hP hS (lv_sub hl [2, 3, 1, 0] rfl) (fun hn => ?_) (fun v4 hvv4 H locs ls hP hS hl => ?_)
  · rw [hn] at hf; exact hs hf.symm
  · rw [hvv4, Option.bind_some] at hf
    refine lv_lload_n hx hb d_Board_rowFromCuts_40 rfl (lv_at hl 2 rfl) ?_
    rw [← hQ]
    exact W.lret (v := v4) hx hb hr (fun t ht hW => ⟨⟨v4, (), rfl, hf.symm, by rw [ht]; exact hP, va_K.moved hW.alike hK⟩, hS.F ht⟩) hS.2.2 d_Board_rowFromCuts_41
set_option maxHeartbeats 4000000 in
set_option maxRecDepth 100000 in
theorem c_Board_isTaken (l : Launch) (D : va_G) (cA : Nat → ClassId) (ad : Nat → Nat) (hI : InjA ad) (sz : Nat) (a1 : Int64) (a3 : Int32) (S : SS) (hs : f_Board_isTaken a1 a3 S ≠ none) : Met l y_Board_isTaken w_Board_isTaken ({ frames := 0, cells := 0, slots := 0, locals := 0 }) (va_Pc [.ref (ad 2), .long a1, .int a3] (fun U => U.heap.size = sz ∧ va_P D vwCl (X cA ad S) U.heap ∧ va_K D vwCl (tysX cA) U)) (va_Qi (fun (r : Int32) (_ : Unit) => f_Board_isTaken a1 a3 S = some r ∧ (r = 0 ∨ r = 1)) (fun (_ : Unit) t => va_P D vwCl (X cA ad S) t.heap ∧ va_K D vwCl (tysX cA) t) (AS ad sz)) 0 0 (AS ad sz) := by
  refine Met.ofW (cc := b_Board_isTaken) (maxL := 5) (ret := (some .boolean)) (by decide) rfl ?_
  intro p e s m args below meth c s₁ B hml hv
  obtain ⟨rfl, hsz, hP, hK⟩ := hv
  have hx := B.exec
  have hb := B.bytes
  have hr := B.returns
  have hts := atoms_spec (ws := w_Board_isTaken) B.pre
  have ht := fun w h => hts w (List.mem_cons_of_mem _ h)
  have hown : s.vm.findClass R_Board = some m.cls := findClass_of_methodNamed B.named
  have hlocks := B.notSynchronized
  subst hsz
  have hAd : ∀ q, q < NP → AS ad s.heap.size (ad q) := fun q h => Or.inl ⟨q, h, rfl⟩
  have hA : ∀ q : Nat, s.heap.size ≤ q → AS ad s.heap.size q := fun q h => Or.inr h
  have hAS : ∀ z : Nat, s.heap.size ≤ z → ∀ q : Nat, AS ad z q → AS ad s.heap.size q := fun z h q hq => hq.elim Or.inl (fun g => Or.inr (Nat.le_trans h g))
  generalize hAe : AS ad s.heap.size = A at hAd hA hAS ⊢
  have hS : va_S A s.heap s.heap [] := va_S.rf
  have hl := lv_entry ([.ref (ad 2), .long a1, .int a3]) (n := 5) (Nat.le_of_ble_eq_true rfl)
  rw [lg_entry_eq]
  generalize (lg_sl ([.ref (ad 2), .long a1, .int a3]) ++ List.replicate (5 - (lg_sl ([.ref (ad 2), .long a1, .int a3])).length) Slot.unset).toArray = ls at hl ⊢
  have hl : lv_has ls 5 [(0, .ref (ad 2)), (1, .long a1), (3, .int a3)] := hl
  have hf := (f_Board_isTaken_s a1 a3 S).symm
  generalize hQ : MQ below _ _ s _ _ _ = Q
  refine lv_iconst (v := 0) hx hb d_Board_isTaken_0 (by decide) ?_
  refine lv_istore (lv' := [(4, .int (0 : Int32)), (0, .ref (ad 2)), (1, .long a1), (3, .int a3)]) hx hb d_Board_isTaken_1 hl (by decide) rfl (fun ls hl => ?_)
  have lp3_1 : ∀ (n : Nat) (x4_1 : Int32) (H : Heap) (locs : List Loc) (ls : Array Slot), va_P D vwCl (X cA ad S) H → va_S A s.heap H locs → lv_has ls 5 [(0, .ref (ad 2)), (1, .long a1), (3, .int a3), (4, .int x4_1)] → f_Board_isTaken_L3 a1 a3 n x4_1 S ≠ none →
      (∀ o : Int32, f_Board_isTaken_L3 a1 a3 n x4_1 S = some (.inl o) → f_Board_isTaken a1 a3 S = some o) →
      (∀ v : Unit, f_Board_isTaken_L3 a1 a3 n x4_1 S = some (.inr v) → ∀ (H : Heap) (locs : List Loc) (ls : Array Slot), va_P D vwCl (X cA ad S) H → va_S A s.heap H locs → lv_has ls 5 [(0, .ref (ad 2)), (1, .long a1), (3, .int a3)] → W p l e (headSpec w_Board_isTaken ({ frames := 0, cells := 0, slots := 0, locals := 0 })).room s m ([.ref (ad 2), .long a1, .int a3] : List Value).toArray below meth c H locs 0 0 Q (F0 m 29 ls [])) →
      W p l e (headSpec w_Board_isTaken ({ frames := 0, cells := 0, slots := 0, locals := 0 })).room s m ([.ref (ad 2), .long a1, .int a3] : List Value).toArray below meth c H locs 0 0 Q (F0 m 3 ls []) := by
    intro n
    induction n with
    | zero => intro x4_1 H locs ls hP hS hl hs; exact absurd rfl hs
    | succ n ih =>
      intro x4_1 H locs ls hP hS hl hs hret hexit
      have hf := (f_Board_isTaken_L3_s a1 a3 n x4_1 S).symm
      refine lv_iload hx hb d_Board_isTaken_3 (lv_at hl 3 rfl) ?_
      refine lv_iload_n hx hb d_Board_isTaken_5 rfl (lv_at hl 2 rfl) ?_
      refine lv_icmp_ge (tgt := 29) hx hb d_Board_isTaken_6 (by decide) (fun c1 => ?_) (fun c1 => ?_)
      · rw [if_pos c1] at hf
        exact hexit _ hf.symm _ _ _ hP hS (lv_sub hl [0, 1, 2] rfl)
      · rw [if_neg c1] at hf
        refine lv_aload_n hx hb d_Board_isTaken_9 rfl (lv_at hl 0 rfl) ?_
        refine va_get (D := D) (ci := 2) (v := .ref (ad 7)) (C := R_Board) (T := T_Board) (N := 7) hx hb ht i_Board hown hK hP 2 Xa_2 rfl 5 (by decide) (ht _ mF_Board_20) (fun _ h9 => h9) rfl d_Board_isTaken_10 ?_
        refine lv_iload hx hb d_Board_isTaken_13 (lv_at hl 3 rfl) ?_
        by_cases b2 : oob x4_1 8
        · rw [if_pos b2] at hf; exact absurd hf.symm hs
        rw [if_neg b2] at hf
        refine va_lald (f := S.2 7) hx hb hK hP 7 1 Xa_7 rfl b2 d_Board_isTaken_15 ?_
        refine lv_lload_n hx hb d_Board_isTaken_16 rfl (lv_at hl 1 rfl) ?_
        refine W.lcmp hx hb d_Board_isTaken_17 ?_
        refine lv_if_ne (tgt := 23) hx hb d_Board_isTaken_18 (by decide) (fun c3 => ?_) (fun c3 => ?_)
        · rw [if_neg c3] at hf
          refine lv_iinc (v := x4_1 + 1) (lv' := [(4, .int (x4_1 + 1)), (0, .ref (ad 2)), (1, .long a1), (3, .int a3)]) hx hb d_Board_isTaken_23 hl (k := 3) rfl rfl (by decide) rfl (fun ls hl => ?_)
          refine lv_goto (tgt := 3) hx hb d_Board_isTaken_26 (by decide) ?_
          exact ih (x4_1 + 1) _ _ _ hP hS (lv_sub hl [1, 2, 3, 0] rfl) (fun hn => hs (hf.symm.trans hn)) (fun o ho => hret o (hf.symm.trans ho)) (fun v ho => hexit v (hf.symm.trans ho))
        · rw [if_pos c3] at hf
          refine lv_iconst (v := 1) hx hb d_Board_isTaken_21 (by decide) ?_
          rw [← hQ]
          have hz : (1 : Int32) = 0 ∨ (1 : Int32) = 1 := Or.inr rfl
          exact W.zret (v := (1 : Int32)) hx hb hr (zb_n hz) (fun t ht hW => ⟨⟨(1 : Int32), (), rfl, ⟨hret _ hf.symm, hz⟩, by rw [ht]; exact hP, va_K.moved hW.alike hK⟩, hS.F ht⟩) hS.2.2 d_Board_isTaken_22
  refine lp3_1 FU (0 : Int32) _ _ _ hP hS (lv_sub hl [1, 2, 3, 0] rfl) (fun hn => ?_) (fun o ho => ?_) (fun v4 hvv4 H locs ls hP hS hl => ?_)
  · rw [hn] at hf; exact hs hf.symm
  · rw [ho, Option.bind_some, Sum.elim_inl] at hf; exact hf.symm
  · rw [hvv4, Option.bind_some, Sum.elim_inr] at hf
    refine lv_iconst (v := 0) hx hb d_Board_isTaken_29 (by decide) ?_
    rw [← hQ]
    have hz : (0 : Int32) = 0 ∨ (0 : Int32) = 1 := Or.inl rfl
    exact W.zret (v := (0 : Int32)) hx hb hr (zb_n hz) (fun t ht hW => ⟨⟨(0 : Int32), (), rfl, ⟨hf.symm, hz⟩, by rw [ht]; exact hP, va_K.moved hW.alike hK⟩, hS.F ht⟩) hS.2.2 d_Board_isTaken_30
set_option maxHeartbeats 4000000 in
set_option maxRecDepth 100000 in
theorem c_JL_bitCount (l : Launch) (D : va_G) (cA : Nat → ClassId) (ad : Nat → Nat) (hI : InjA ad) (sz : Nat) (a0 : Int64) (S : SS) (hs : f_JL_bitCount a0 S ≠ none) : Met l y_JL_bitCount w_JL_bitCount ({ frames := 0, cells := 0, slots := 0, locals := 0 }) (va_Pc [.long a0] (fun U => U.heap.size = sz ∧ va_P D vwCl (X cA ad S) U.heap ∧ va_K D vwCl (tysX cA) U)) (va_Qi (fun (r : Int32) (_ : Unit) => f_JL_bitCount a0 S = some r) (fun (_ : Unit) t => va_P D vwCl (X cA ad S) t.heap ∧ va_K D vwCl (tysX cA) t) (AS ad sz)) 0 0 (AS ad sz) := by
  refine Met.ofW (cc := b_JL_bitCount) (maxL := 2) (ret := (some .int)) (by decide) rfl ?_
  intro p e s m args below meth c s₁ B hml hv
  obtain ⟨rfl, hsz, hP, hK⟩ := hv
  have hx := B.exec
  have hb := B.bytes
  have hr := B.returns
  have hts := atoms_spec (ws := w_JL_bitCount) B.pre
  have ht := fun w h => hts w (List.mem_cons_of_mem _ h)
  have hown : s.vm.findClass R_JL = some m.cls := findClass_of_methodNamed B.named
  have hlocks := B.notSynchronized
  subst hsz
  have hAd : ∀ q, q < NP → AS ad s.heap.size (ad q) := fun q h => Or.inl ⟨q, h, rfl⟩
  have hA : ∀ q : Nat, s.heap.size ≤ q → AS ad s.heap.size q := fun q h => Or.inr h
  have hAS : ∀ z : Nat, s.heap.size ≤ z → ∀ q : Nat, AS ad z q → AS ad s.heap.size q := fun z h q hq => hq.elim Or.inl (fun g => Or.inr (Nat.le_trans h g))
  generalize hAe : AS ad s.heap.size = A at hAd hA hAS ⊢
  have hS : va_S A s.heap s.heap [] := va_S.rf
  have hl := lv_entry ([.long a0]) (n := 2) (Nat.le_of_ble_eq_true rfl)
  rw [lg_entry_eq]
  generalize (lg_sl ([.long a0]) ++ List.replicate (2 - (lg_sl ([.long a0])).length) Slot.unset).toArray = ls at hl ⊢
  have hl : lv_has ls 2 [(0, .long a0)] := hl
  have hf := (f_JL_bitCount_s a0 S).symm
  generalize hQ : MQ below _ _ s _ _ _ = Q
  refine lv_lload_n hx hb d_JL_bitCount_0 rfl (lv_at hl 0 rfl) ?_
  refine lv_lload_n hx hb d_JL_bitCount_1 rfl (lv_at hl 0 rfl) ?_
  refine lv_iconst (v := 1) hx hb d_JL_bitCount_2 (by decide) ?_
  refine lv_lushr hx hb d_JL_bitCount_3 rfl ?_
  refine lv_ldc2 (v := 6148914691236517205) hx hb hown (ht _ mC_JL_314) d_JL_bitCount_4 ?_
  refine lv_land hx hb d_JL_bitCount_7 ?_
  refine lv_lsub hx hb d_JL_bitCount_8 ?_
  refine lv_lstore_n (lv' := [(0, .long (a0 - (((a0.toUInt64 >>> ((1 : Int32).toInt64.toUInt64 &&& Int64.toUInt64 63)).toInt64) &&& (6148914691236517205 : Int64))))]) hx hb d_JL_bitCount_9 rfl hl (by decide) rfl (fun ls hl => ?_)
  refine lv_lload_n hx hb d_JL_bitCount_10 rfl (lv_at hl 0 rfl) ?_
  refine lv_ldc2 (v := 3689348814741910323) hx hb hown (ht _ mC_JL_316) d_JL_bitCount_11 ?_
  refine lv_land hx hb d_JL_bitCount_14 ?_
  refine lv_lload_n hx hb d_JL_bitCount_15 rfl (lv_at hl 0 rfl) ?_
  refine lv_iconst (v := 2) hx hb d_JL_bitCount_16 (by decide) ?_
  refine lv_lushr hx hb d_JL_bitCount_17 rfl ?_
  refine lv_ldc2 (v := 3689348814741910323) hx hb hown (ht _ mC_JL_316) d_JL_bitCount_18 ?_
  refine lv_land hx hb d_JL_bitCount_21 ?_
  refine lv_ladd hx hb d_JL_bitCount_22 ?_
  refine lv_lstore_n (lv' := [(0, .long (((a0 - (((a0.toUInt64 >>> ((1 : Int32).toInt64.toUInt64 &&& Int64.toUInt64 63)).toInt64) &&& (6148914691236517205 : Int64))) &&& (3689348814741910323 : Int64)) + ((((a0 - (((a0.toUInt64 >>> ((1 : Int32).toInt64.toUInt64 &&& Int64.toUInt64 63)).toInt64) &&& (6148914691236517205 : Int64))).toUInt64 >>> ((2 : Int32).toInt64.toUInt64 &&& Int64.toUInt64 63)).toInt64) &&& (3689348814741910323 : Int64))))]) hx hb d_JL_bitCount_23 rfl hl (by decide) rfl (fun ls hl => ?_)
  refine lv_lload_n hx hb d_JL_bitCount_24 rfl (lv_at hl 0 rfl) ?_
  refine lv_lload_n hx hb d_JL_bitCount_25 rfl (lv_at hl 0 rfl) ?_
  refine lv_iconst (v := 4) hx hb d_JL_bitCount_26 (by decide) ?_
  refine lv_lushr hx hb d_JL_bitCount_27 rfl ?_
  refine lv_ladd hx hb d_JL_bitCount_28 ?_
  refine lv_ldc2 (v := 1085102592571150095) hx hb hown (ht _ mC_JL_318) d_JL_bitCount_29 ?_
  refine lv_land hx hb d_JL_bitCount_32 ?_
  refine lv_lstore_n (lv' := [(0, .long (((((a0 - (((a0.toUInt64 >>> ((1 : Int32).toInt64.toUInt64 &&& Int64.toUInt64 63)).toInt64) &&& (6148914691236517205 : Int64))) &&& (3689348814741910323 : Int64)) + ((((a0 - (((a0.toUInt64 >>> ((1 : Int32).toInt64.toUInt64 &&& Int64.toUInt64 63)).toInt64) &&& (6148914691236517205 : Int64))).toUInt64 >>> ((2 : Int32).toInt64.toUInt64 &&& Int64.toUInt64 63)).toInt64) &&& (3689348814741910323 : Int64))) + (((((a0 - (((a0.toUInt64 >>> ((1 : Int32).toInt64.toUInt64 &&& Int64.toUInt64 63)).toInt64) &&& (6148914691236517205 : Int64))) &&& (3689348814741910323 : Int64)) + ((((a0 - (((a0.toUInt64 >>> ((1 : Int32).toInt64.toUInt64 &&& Int64.toUInt64 63)).toInt64) &&& (6148914691236517205 : Int64))).toUInt64 >>> ((2 : Int32).toInt64.toUInt64 &&& Int64.toUInt64 63)).toInt64) &&& (3689348814741910323 : Int64))).toUInt64 >>> ((4 : Int32).toInt64.toUInt64 &&& Int64.toUInt64 63)).toInt64)) &&& (1085102592571150095 : Int64)))]) hx hb d_JL_bitCount_33 rfl hl (by decide) rfl (fun ls hl => ?_)
  refine lv_lload_n hx hb d_JL_bitCount_34 rfl (lv_at hl 0 rfl) ?_
  refine lv_lload_n hx hb d_JL_bitCount_35 rfl (lv_at hl 0 rfl) ?_
  refine lv_bipush (v := 8) hx hb d_JL_bitCount_36 (by decide) ?_
  refine lv_lushr hx hb d_JL_bitCount_38 rfl ?_
  refine lv_ladd hx hb d_JL_bitCount_39 ?_
  refine lv_lstore_n (lv' := [(0, .long ((((((a0 - (((a0.toUInt64 >>> ((1 : Int32).toInt64.toUInt64 &&& Int64.toUInt64 63)).toInt64) &&& (6148914691236517205 : Int64))) &&& (3689348814741910323 : Int64)) + ((((a0 - (((a0.toUInt64 >>> ((1 : Int32).toInt64.toUInt64 &&& Int64.toUInt64 63)).toInt64) &&& (6148914691236517205 : Int64))).toUInt64 >>> ((2 : Int32).toInt64.toUInt64 &&& Int64.toUInt64 63)).toInt64) &&& (3689348814741910323 : Int64))) + (((((a0 - (((a0.toUInt64 >>> ((1 : Int32).toInt64.toUInt64 &&& Int64.toUInt64 63)).toInt64) &&& (6148914691236517205 : Int64))) &&& (3689348814741910323 : Int64)) + ((((a0 - (((a0.toUInt64 >>> ((1 : Int32).toInt64.toUInt64 &&& Int64.toUInt64 63)).toInt64) &&& (6148914691236517205 : Int64))).toUInt64 >>> ((2 : Int32).toInt64.toUInt64 &&& Int64.toUInt64 63)).toInt64) &&& (3689348814741910323 : Int64))).toUInt64 >>> ((4 : Int32).toInt64.toUInt64 &&& Int64.toUInt64 63)).toInt64)) &&& (1085102592571150095 : Int64)) + (((((((a0 - (((a0.toUInt64 >>> ((1 : Int32).toInt64.toUInt64 &&& Int64.toUInt64 63)).toInt64) &&& (6148914691236517205 : Int64))) &&& (3689348814741910323 : Int64)) + ((((a0 - (((a0.toUInt64 >>> ((1 : Int32).toInt64.toUInt64 &&& Int64.toUInt64 63)).toInt64) &&& (6148914691236517205 : Int64))).toUInt64 >>> ((2 : Int32).toInt64.toUInt64 &&& Int64.toUInt64 63)).toInt64) &&& (3689348814741910323 : Int64))) + (((((a0 - (((a0.toUInt64 >>> ((1 : Int32).toInt64.toUInt64 &&& Int64.toUInt64 63)).toInt64) &&& (6148914691236517205 : Int64))) &&& (3689348814741910323 : Int64)) + ((((a0 - (((a0.toUInt64 >>> ((1 : Int32).toInt64.toUInt64 &&& Int64.toUInt64 63)).toInt64) &&& (6148914691236517205 : Int64))).toUInt64 >>> ((2 : Int32).toInt64.toUInt64 &&& Int64.toUInt64 63)).toInt64) &&& (3689348814741910323 : Int64))).toUInt64 >>> ((4 : Int32).toInt64.toUInt64 &&& Int64.toUInt64 63)).toInt64)) &&& (1085102592571150095 : Int64)).toUInt64 >>> ((8 : Int32).toInt64.toUInt64 &&& Int64.toUInt64 63)).toInt64)))]) hx hb d_JL_bitCount_40 rfl hl (by decide) rfl (fun ls hl => ?_)
  refine lv_lload_n hx hb d_JL_bitCount_41 rfl (lv_at hl 0 rfl) ?_
  refine lv_lload_n hx hb d_JL_bitCount_42 rfl (lv_at hl 0 rfl) ?_
  refine lv_bipush (v := 16) hx hb d_JL_bitCount_43 (by decide) ?_
  refine lv_lushr hx hb d_JL_bitCount_45 rfl ?_
  refine lv_ladd hx hb d_JL_bitCount_46 ?_
  refine lv_lstore_n (lv' := [(0, .long (((((((a0 - (((a0.toUInt64 >>> ((1 : Int32).toInt64.toUInt64 &&& Int64.toUInt64 63)).toInt64) &&& (6148914691236517205 : Int64))) &&& (3689348814741910323 : Int64)) + ((((a0 - (((a0.toUInt64 >>> ((1 : Int32).toInt64.toUInt64 &&& Int64.toUInt64 63)).toInt64) &&& (6148914691236517205 : Int64))).toUInt64 >>> ((2 : Int32).toInt64.toUInt64 &&& Int64.toUInt64 63)).toInt64) &&& (3689348814741910323 : Int64))) + (((((a0 - (((a0.toUInt64 >>> ((1 : Int32).toInt64.toUInt64 &&& Int64.toUInt64 63)).toInt64) &&& (6148914691236517205 : Int64))) &&& (3689348814741910323 : Int64)) + ((((a0 - (((a0.toUInt64 >>> ((1 : Int32).toInt64.toUInt64 &&& Int64.toUInt64 63)).toInt64) &&& (6148914691236517205 : Int64))).toUInt64 >>> ((2 : Int32).toInt64.toUInt64 &&& Int64.toUInt64 63)).toInt64) &&& (3689348814741910323 : Int64))).toUInt64 >>> ((4 : Int32).toInt64.toUInt64 &&& Int64.toUInt64 63)).toInt64)) &&& (1085102592571150095 : Int64)) + (((((((a0 - (((a0.toUInt64 >>> ((1 : Int32).toInt64.toUInt64 &&& Int64.toUInt64 63)).toInt64) &&& (6148914691236517205 : Int64))) &&& (3689348814741910323 : Int64)) + ((((a0 - (((a0.toUInt64 >>> ((1 : Int32).toInt64.toUInt64 &&& Int64.toUInt64 63)).toInt64) &&& (6148914691236517205 : Int64))).toUInt64 >>> ((2 : Int32).toInt64.toUInt64 &&& Int64.toUInt64 63)).toInt64) &&& (3689348814741910323 : Int64))) + (((((a0 - (((a0.toUInt64 >>> ((1 : Int32).toInt64.toUInt64 &&& Int64.toUInt64 63)).toInt64) &&& (6148914691236517205 : Int64))) &&& (3689348814741910323 : Int64)) + ((((a0 - (((a0.toUInt64 >>> ((1 : Int32).toInt64.toUInt64 &&& Int64.toUInt64 63)).toInt64) &&& (6148914691236517205 : Int64))).toUInt64 >>> ((2 : Int32).toInt64.toUInt64 &&& Int64.toUInt64 63)).toInt64) &&& (3689348814741910323 : Int64))).toUInt64 >>> ((4 : Int32).toInt64.toUInt64 &&& Int64.toUInt64 63)).toInt64)) &&& (1085102592571150095 : Int64)).toUInt64 >>> ((8 : Int32).toInt64.toUInt64 &&& Int64.toUInt64 63)).toInt64)) + ((((((((a0 - (((a0.toUInt64 >>> ((1 : Int32).toInt64.toUInt64 &&& Int64.toUInt64 63)).toInt64) &&& (6148914691236517205 : Int64))) &&& (3689348814741910323 : Int64)) + ((((a0 - (((a0.toUInt64 >>> ((1 : Int32).toInt64.toUInt64 &&& Int64.toUInt64 63)).toInt64) &&& (6148914691236517205 : Int64))).toUInt64 >>> ((2 : Int32).toInt64.toUInt64 &&& Int64.toUInt64 63)).toInt64) &&& (3689348814741910323 : Int64))) + (((((a0 - (((a0.toUInt64 >>> ((1 : Int32).toInt64.toUInt64 &&& Int64.toUInt64 63)).toInt64) &&& (6148914691236517205 : Int64))) &&& (3689348814741910323 : Int64)) + ((((a0 - (((a0.toUInt64 >>> ((1 : Int32).toInt64.toUInt64 &&& Int64.toUInt64 63)).toInt64) &&& (6148914691236517205 : Int64))).toUInt64 >>> ((2 : Int32).toInt64.toUInt64 &&& Int64.toUInt64 63)).toInt64) &&& (3689348814741910323 : Int64))).toUInt64 >>> ((4 : Int32).toInt64.toUInt64 &&& Int64.toUInt64 63)).toInt64)) &&& (1085102592571150095 : Int64)) + (((((((a0 - (((a0.toUInt64 >>> ((1 : Int32).toInt64.toUInt64 &&& Int64.toUInt64 63)).toInt64) &&& (6148914691236517205 : Int64))) &&& (3689348814741910323 : Int64)) + ((((a0 - (((a0.toUInt64 >>> ((1 : Int32).toInt64.toUInt64 &&& Int64.toUInt64 63)).toInt64) &&& (6148914691236517205 : Int64))).toUInt64 >>> ((2 : Int32).toInt64.toUInt64 &&& Int64.toUInt64 63)).toInt64) &&& (3689348814741910323 : Int64))) + (((((a0 - (((a0.toUInt64 >>> ((1 : Int32).toInt64.toUInt64 &&& Int64.toUInt64 63)).toInt64) &&& (6148914691236517205 : Int64))) &&& (3689348814741910323 : Int64)) + ((((a0 - (((a0.toUInt64 >>> ((1 : Int32).toInt64.toUInt64 &&& Int64.toUInt64 63)).toInt64) &&& (6148914691236517205 : Int64))).toUInt64 >>> ((2 : Int32).toInt64.toUInt64 &&& Int64.toUInt64 63)).toInt64) &&& (3689348814741910323 : Int64))).toUInt64 >>> ((4 : Int32).toInt64.toUInt64 &&& Int64.toUInt64 63)).toInt64)) &&& (1085102592571150095 : Int64)).toUInt64 >>> ((8 : Int32).toInt64.toUInt64 &&& Int64.toUInt64 63)).toInt64)).toUInt64 >>> ((16 : Int32).toInt64.toUInt64 &&& Int64.toUInt64 63)).toInt64)))]) hx hb d_JL_bitCount_47 rfl hl (by decide) rfl (fun ls hl => ?_)
  refine lv_lload_n hx hb d_JL_bitCount_48 rfl (lv_at hl 0 rfl) ?_
  refine lv_lload_n hx hb d_JL_bitCount_49 rfl (lv_at hl 0 rfl) ?_
  refine lv_bipush (v := 32) hx hb d_JL_bitCount_50 (by decide) ?_
  refine lv_lushr hx hb d_JL_bitCount_52 rfl ?_
  refine lv_ladd hx hb d_JL_bitCount_53 ?_
  refine lv_lstore_n (lv' := [(0, .long ((((((((a0 - (((a0.toUInt64 >>> ((1 : Int32).toInt64.toUInt64 &&& Int64.toUInt64 63)).toInt64) &&& (6148914691236517205 : Int64))) &&& (3689348814741910323 : Int64)) + ((((a0 - (((a0.toUInt64 >>> ((1 : Int32).toInt64.toUInt64 &&& Int64.toUInt64 63)).toInt64) &&& (6148914691236517205 : Int64))).toUInt64 >>> ((2 : Int32).toInt64.toUInt64 &&& Int64.toUInt64 63)).toInt64) &&& (3689348814741910323 : Int64))) + (((((a0 - (((a0.toUInt64 >>> ((1 : Int32).toInt64.toUInt64 &&& Int64.toUInt64 63)).toInt64) &&& (6148914691236517205 : Int64))) &&& (3689348814741910323 : Int64)) + ((((a0 - (((a0.toUInt64 >>> ((1 : Int32).toInt64.toUInt64 &&& Int64.toUInt64 63)).toInt64) &&& (6148914691236517205 : Int64))).toUInt64 >>> ((2 : Int32).toInt64.toUInt64 &&& Int64.toUInt64 63)).toInt64) &&& (3689348814741910323 : Int64))).toUInt64 >>> ((4 : Int32).toInt64.toUInt64 &&& Int64.toUInt64 63)).toInt64)) &&& (1085102592571150095 : Int64)) + (((((((a0 - (((a0.toUInt64 >>> ((1 : Int32).toInt64.toUInt64 &&& Int64.toUInt64 63)).toInt64) &&& (6148914691236517205 : Int64))) &&& (3689348814741910323 : Int64)) + ((((a0 - (((a0.toUInt64 >>> ((1 : Int32).toInt64.toUInt64 &&& Int64.toUInt64 63)).toInt64) &&& (6148914691236517205 : Int64))).toUInt64 >>> ((2 : Int32).toInt64.toUInt64 &&& Int64.toUInt64 63)).toInt64) &&& (3689348814741910323 : Int64))) + (((((a0 - (((a0.toUInt64 >>> ((1 : Int32).toInt64.toUInt64 &&& Int64.toUInt64 63)).toInt64) &&& (6148914691236517205 : Int64))) &&& (3689348814741910323 : Int64)) + ((((a0 - (((a0.toUInt64 >>> ((1 : Int32).toInt64.toUInt64 &&& Int64.toUInt64 63)).toInt64) &&& (6148914691236517205 : Int64))).toUInt64 >>> ((2 : Int32).toInt64.toUInt64 &&& Int64.toUInt64 63)).toInt64) &&& (3689348814741910323 : Int64))).toUInt64 >>> ((4 : Int32).toInt64.toUInt64 &&& Int64.toUInt64 63)).toInt64)) &&& (1085102592571150095 : Int64)).toUInt64 >>> ((8 : Int32).toInt64.toUInt64 &&& Int64.toUInt64 63)).toInt64)) + ((((((((a0 - (((a0.toUInt64 >>> ((1 : Int32).toInt64.toUInt64 &&& Int64.toUInt64 63)).toInt64) &&& (6148914691236517205 : Int64))) &&& (3689348814741910323 : Int64)) + ((((a0 - (((a0.toUInt64 >>> ((1 : Int32).toInt64.toUInt64 &&& Int64.toUInt64 63)).toInt64) &&& (6148914691236517205 : Int64))).toUInt64 >>> ((2 : Int32).toInt64.toUInt64 &&& Int64.toUInt64 63)).toInt64) &&& (3689348814741910323 : Int64))) + (((((a0 - (((a0.toUInt64 >>> ((1 : Int32).toInt64.toUInt64 &&& Int64.toUInt64 63)).toInt64) &&& (6148914691236517205 : Int64))) &&& (3689348814741910323 : Int64)) + ((((a0 - (((a0.toUInt64 >>> ((1 : Int32).toInt64.toUInt64 &&& Int64.toUInt64 63)).toInt64) &&& (6148914691236517205 : Int64))).toUInt64 >>> ((2 : Int32).toInt64.toUInt64 &&& Int64.toUInt64 63)).toInt64) &&& (3689348814741910323 : Int64))).toUInt64 >>> ((4 : Int32).toInt64.toUInt64 &&& Int64.toUInt64 63)).toInt64)) &&& (1085102592571150095 : Int64)) + (((((((a0 - (((a0.toUInt64 >>> ((1 : Int32).toInt64.toUInt64 &&& Int64.toUInt64 63)).toInt64) &&& (6148914691236517205 : Int64))) &&& (3689348814741910323 : Int64)) + ((((a0 - (((a0.toUInt64 >>> ((1 : Int32).toInt64.toUInt64 &&& Int64.toUInt64 63)).toInt64) &&& (6148914691236517205 : Int64))).toUInt64 >>> ((2 : Int32).toInt64.toUInt64 &&& Int64.toUInt64 63)).toInt64) &&& (3689348814741910323 : Int64))) + (((((a0 - (((a0.toUInt64 >>> ((1 : Int32).toInt64.toUInt64 &&& Int64.toUInt64 63)).toInt64) &&& (6148914691236517205 : Int64))) &&& (3689348814741910323 : Int64)) + ((((a0 - (((a0.toUInt64 >>> ((1 : Int32).toInt64.toUInt64 &&& Int64.toUInt64 63)).toInt64) &&& (6148914691236517205 : Int64))).toUInt64 >>> ((2 : Int32).toInt64.toUInt64 &&& Int64.toUInt64 63)).toInt64) &&& (3689348814741910323 : Int64))).toUInt64 >>> ((4 : Int32).toInt64.toUInt64 &&& Int64.toUInt64 63)).toInt64)) &&& (1085102592571150095 : Int64)).toUInt64 >>> ((8 : Int32).toInt64.toUInt64 &&& Int64.toUInt64 63)).toInt64)).toUInt64 >>> ((16 : Int32).toInt64.toUInt64 &&& Int64.toUInt64 63)).toInt64)) + (((((((((a0 - (((a0.toUInt64 >>> ((1 : Int32).toInt64.toUInt64 &&& Int64.toUInt64 63)).toInt64) &&& (6148914691236517205 : Int64))) &&& (3689348814741910323 : Int64)) + ((((a0 - (((a0.toUInt64 >>> ((1 : Int32).toInt64.toUInt64 &&& Int64.toUInt64 63)).toInt64) &&& (6148914691236517205 : Int64))).toUInt64 >>> ((2 : Int32).toInt64.toUInt64 &&& Int64.toUInt64 63)).toInt64) &&& (3689348814741910323 : Int64))) + (((((a0 - (((a0.toUInt64 >>> ((1 : Int32).toInt64.toUInt64 &&& Int64.toUInt64 63)).toInt64) &&& (6148914691236517205 : Int64))) &&& (3689348814741910323 : Int64)) + ((((a0 - (((a0.toUInt64 >>> ((1 : Int32).toInt64.toUInt64 &&& Int64.toUInt64 63)).toInt64) &&& (6148914691236517205 : Int64))).toUInt64 >>> ((2 : Int32).toInt64.toUInt64 &&& Int64.toUInt64 63)).toInt64) &&& (3689348814741910323 : Int64))).toUInt64 >>> ((4 : Int32).toInt64.toUInt64 &&& Int64.toUInt64 63)).toInt64)) &&& (1085102592571150095 : Int64)) + (((((((a0 - (((a0.toUInt64 >>> ((1 : Int32).toInt64.toUInt64 &&& Int64.toUInt64 63)).toInt64) &&& (6148914691236517205 : Int64))) &&& (3689348814741910323 : Int64)) + ((((a0 - (((a0.toUInt64 >>> ((1 : Int32).toInt64.toUInt64 &&& Int64.toUInt64 63)).toInt64) &&& (6148914691236517205 : Int64))).toUInt64 >>> ((2 : Int32).toInt64.toUInt64 &&& Int64.toUInt64 63)).toInt64) &&& (3689348814741910323 : Int64))) + (((((a0 - (((a0.toUInt64 >>> ((1 : Int32).toInt64.toUInt64 &&& Int64.toUInt64 63)).toInt64) &&& (6148914691236517205 : Int64))) &&& (3689348814741910323 : Int64)) + ((((a0 - (((a0.toUInt64 >>> ((1 : Int32).toInt64.toUInt64 &&& Int64.toUInt64 63)).toInt64) &&& (6148914691236517205 : Int64))).toUInt64 >>> ((2 : Int32).toInt64.toUInt64 &&& Int64.toUInt64 63)).toInt64) &&& (3689348814741910323 : Int64))).toUInt64 >>> ((4 : Int32).toInt64.toUInt64 &&& Int64.toUInt64 63)).toInt64)) &&& (1085102592571150095 : Int64)).toUInt64 >>> ((8 : Int32).toInt64.toUInt64 &&& Int64.toUInt64 63)).toInt64)) + ((((((((a0 - (((a0.toUInt64 >>> ((1 : Int32).toInt64.toUInt64 &&& Int64.toUInt64 63)).toInt64) &&& (6148914691236517205 : Int64))) &&& (3689348814741910323 : Int64)) + ((((a0 - (((a0.toUInt64 >>> ((1 : Int32).toInt64.toUInt64 &&& Int64.toUInt64 63)).toInt64) &&& (6148914691236517205 : Int64))).toUInt64 >>> ((2 : Int32).toInt64.toUInt64 &&& Int64.toUInt64 63)).toInt64) &&& (3689348814741910323 : Int64))) + (((((a0 - (((a0.toUInt64 >>> ((1 : Int32).toInt64.toUInt64 &&& Int64.toUInt64 63)).toInt64) &&& (6148914691236517205 : Int64))) &&& (3689348814741910323 : Int64)) + ((((a0 - (((a0.toUInt64 >>> ((1 : Int32).toInt64.toUInt64 &&& Int64.toUInt64 63)).toInt64) &&& (6148914691236517205 : Int64))).toUInt64 >>> ((2 : Int32).toInt64.toUInt64 &&& Int64.toUInt64 63)).toInt64) &&& (3689348814741910323 : Int64))).toUInt64 >>> ((4 : Int32).toInt64.toUInt64 &&& Int64.toUInt64 63)).toInt64)) &&& (1085102592571150095 : Int64)) + (((((((a0 - (((a0.toUInt64 >>> ((1 : Int32).toInt64.toUInt64 &&& Int64.toUInt64 63)).toInt64) &&& (6148914691236517205 : Int64))) &&& (3689348814741910323 : Int64)) + ((((a0 - (((a0.toUInt64 >>> ((1 : Int32).toInt64.toUInt64 &&& Int64.toUInt64 63)).toInt64) &&& (6148914691236517205 : Int64))).toUInt64 >>> ((2 : Int32).toInt64.toUInt64 &&& Int64.toUInt64 63)).toInt64) &&& (3689348814741910323 : Int64))) + (((((a0 - (((a0.toUInt64 >>> ((1 : Int32).toInt64.toUInt64 &&& Int64.toUInt64 63)).toInt64) &&& (6148914691236517205 : Int64))) &&& (3689348814741910323 : Int64)) + ((((a0 - (((a0.toUInt64 >>> ((1 : Int32).toInt64.toUInt64 &&& Int64.toUInt64 63)).toInt64) &&& (6148914691236517205 : Int64))).toUInt64 >>> ((2 : Int32).toInt64.toUInt64 &&& Int64.toUInt64 63)).toInt64) &&& (3689348814741910323 : Int64))).toUInt64 >>> ((4 : Int32).toInt64.toUInt64 &&& Int64.toUInt64 63)).toInt64)) &&& (1085102592571150095 : Int64)).toUInt64 >>> ((8 : Int32).toInt64.toUInt64 &&& Int64.toUInt64 63)).toInt64)).toUInt64 >>> ((16 : Int32).toInt64.toUInt64 &&& Int64.toUInt64 63)).toInt64)).toUInt64 >>> ((32 : Int32).toInt64.toUInt64 &&& Int64.toUInt64 63)).toInt64)))]) hx hb d_JL_bitCount_54 rfl hl (by decide) rfl (fun ls hl => ?_)
  refine lv_lload_n hx hb d_JL_bitCount_55 rfl (lv_at hl 0 rfl) ?_
  refine lv_l2i hx hb d_JL_bitCount_56 rfl ?_
  refine lv_bipush (v := 127) hx hb d_JL_bitCount_57 (by decide) ?_
  refine lv_iand hx hb d_JL_bitCount_59 ?_
  rw [← hQ]
  exact W.iret (v := (((((((((a0 - (((a0.toUInt64 >>> ((1 : Int32).toInt64.toUInt64 &&& Int64.toUInt64 63)).toInt64) &&& (6148914691236517205 : Int64))) &&& (3689348814741910323 : Int64)) + ((((a0 - (((a0.toUInt64 >>> ((1 : Int32).toInt64.toUInt64 &&& Int64.toUInt64 63)).toInt64) &&& (6148914691236517205 : Int64))).toUInt64 >>> ((2 : Int32).toInt64.toUInt64 &&& Int64.toUInt64 63)).toInt64) &&& (3689348814741910323 : Int64))) + (((((a0 - (((a0.toUInt64 >>> ((1 : Int32).toInt64.toUInt64 &&& Int64.toUInt64 63)).toInt64) &&& (6148914691236517205 : Int64))) &&& (3689348814741910323 : Int64)) + ((((a0 - (((a0.toUInt64 >>> ((1 : Int32).toInt64.toUInt64 &&& Int64.toUInt64 63)).toInt64) &&& (6148914691236517205 : Int64))).toUInt64 >>> ((2 : Int32).toInt64.toUInt64 &&& Int64.toUInt64 63)).toInt64) &&& (3689348814741910323 : Int64))).toUInt64 >>> ((4 : Int32).toInt64.toUInt64 &&& Int64.toUInt64 63)).toInt64)) &&& (1085102592571150095 : Int64)) + (((((((a0 - (((a0.toUInt64 >>> ((1 : Int32).toInt64.toUInt64 &&& Int64.toUInt64 63)).toInt64) &&& (6148914691236517205 : Int64))) &&& (3689348814741910323 : Int64)) + ((((a0 - (((a0.toUInt64 >>> ((1 : Int32).toInt64.toUInt64 &&& Int64.toUInt64 63)).toInt64) &&& (6148914691236517205 : Int64))).toUInt64 >>> ((2 : Int32).toInt64.toUInt64 &&& Int64.toUInt64 63)).toInt64) &&& (3689348814741910323 : Int64))) + (((((a0 - (((a0.toUInt64 >>> ((1 : Int32).toInt64.toUInt64 &&& Int64.toUInt64 63)).toInt64) &&& (6148914691236517205 : Int64))) &&& (3689348814741910323 : Int64)) + ((((a0 - (((a0.toUInt64 >>> ((1 : Int32).toInt64.toUInt64 &&& Int64.toUInt64 63)).toInt64) &&& (6148914691236517205 : Int64))).toUInt64 >>> ((2 : Int32).toInt64.toUInt64 &&& Int64.toUInt64 63)).toInt64) &&& (3689348814741910323 : Int64))).toUInt64 >>> ((4 : Int32).toInt64.toUInt64 &&& Int64.toUInt64 63)).toInt64)) &&& (1085102592571150095 : Int64)).toUInt64 >>> ((8 : Int32).toInt64.toUInt64 &&& Int64.toUInt64 63)).toInt64)) + ((((((((a0 - (((a0.toUInt64 >>> ((1 : Int32).toInt64.toUInt64 &&& Int64.toUInt64 63)).toInt64) &&& (6148914691236517205 : Int64))) &&& (3689348814741910323 : Int64)) + ((((a0 - (((a0.toUInt64 >>> ((1 : Int32).toInt64.toUInt64 &&& Int64.toUInt64 63)).toInt64) &&& (6148914691236517205 : Int64))).toUInt64 >>> ((2 : Int32).toInt64.toUInt64 &&& Int64.toUInt64 63)).toInt64) &&& (3689348814741910323 : Int64))) + (((((a0 - (((a0.toUInt64 >>> ((1 : Int32).toInt64.toUInt64 &&& Int64.toUInt64 63)).toInt64) &&& (6148914691236517205 : Int64))) &&& (3689348814741910323 : Int64)) + ((((a0 - (((a0.toUInt64 >>> ((1 : Int32).toInt64.toUInt64 &&& Int64.toUInt64 63)).toInt64) &&& (6148914691236517205 : Int64))).toUInt64 >>> ((2 : Int32).toInt64.toUInt64 &&& Int64.toUInt64 63)).toInt64) &&& (3689348814741910323 : Int64))).toUInt64 >>> ((4 : Int32).toInt64.toUInt64 &&& Int64.toUInt64 63)).toInt64)) &&& (1085102592571150095 : Int64)) + (((((((a0 - (((a0.toUInt64 >>> ((1 : Int32).toInt64.toUInt64 &&& Int64.toUInt64 63)).toInt64) &&& (6148914691236517205 : Int64))) &&& (3689348814741910323 : Int64)) + ((((a0 - (((a0.toUInt64 >>> ((1 : Int32).toInt64.toUInt64 &&& Int64.toUInt64 63)).toInt64) &&& (6148914691236517205 : Int64))).toUInt64 >>> ((2 : Int32).toInt64.toUInt64 &&& Int64.toUInt64 63)).toInt64) &&& (3689348814741910323 : Int64))) + (((((a0 - (((a0.toUInt64 >>> ((1 : Int32).toInt64.toUInt64 &&& Int64.toUInt64 63)).toInt64) &&& (6148914691236517205 : Int64))) &&& (3689348814741910323 : Int64)) + ((((a0 - (((a0.toUInt64 >>> ((1 : Int32).toInt64.toUInt64 &&& Int64.toUInt64 63)).toInt64) &&& (6148914691236517205 : Int64))).toUInt64 >>> ((2 : Int32).toInt64.toUInt64 &&& Int64.toUInt64 63)).toInt64) &&& (3689348814741910323 : Int64))).toUInt64 >>> ((4 : Int32).toInt64.toUInt64 &&& Int64.toUInt64 63)).toInt64)) &&& (1085102592571150095 : Int64)).toUInt64 >>> ((8 : Int32).toInt64.toUInt64 &&& Int64.toUInt64 63)).toInt64)).toUInt64 >>> ((16 : Int32).toInt64.toUInt64 &&& Int64.toUInt64 63)).toInt64)) + (((((((((a0 - (((a0.toUInt64 >>> ((1 : Int32).toInt64.toUInt64 &&& Int64.toUInt64 63)).toInt64) &&& (6148914691236517205 : Int64))) &&& (3689348814741910323 : Int64)) + ((((a0 - (((a0.toUInt64 >>> ((1 : Int32).toInt64.toUInt64 &&& Int64.toUInt64 63)).toInt64) &&& (6148914691236517205 : Int64))).toUInt64 >>> ((2 : Int32).toInt64.toUInt64 &&& Int64.toUInt64 63)).toInt64) &&& (3689348814741910323 : Int64))) + (((((a0 - (((a0.toUInt64 >>> ((1 : Int32).toInt64.toUInt64 &&& Int64.toUInt64 63)).toInt64) &&& (6148914691236517205 : Int64))) &&& (3689348814741910323 : Int64)) + ((((a0 - (((a0.toUInt64 >>> ((1 : Int32).toInt64.toUInt64 &&& Int64.toUInt64 63)).toInt64) &&& (6148914691236517205 : Int64))).toUInt64 >>> ((2 : Int32).toInt64.toUInt64 &&& Int64.toUInt64 63)).toInt64) &&& (3689348814741910323 : Int64))).toUInt64 >>> ((4 : Int32).toInt64.toUInt64 &&& Int64.toUInt64 63)).toInt64)) &&& (1085102592571150095 : Int64)) + (((((((a0 - (((a0.toUInt64 >>> ((1 : Int32).toInt64.toUInt64 &&& Int64.toUInt64 63)).toInt64) &&& (6148914691236517205 : Int64))) &&& (3689348814741910323 : Int64)) + ((((a0 - (((a0.toUInt64 >>> ((1 : Int32).toInt64.toUInt64 &&& Int64.toUInt64 63)).toInt64) &&& (6148914691236517205 : Int64))).toUInt64 >>> ((2 : Int32).toInt64.toUInt64 &&& Int64.toUInt64 63)).toInt64) &&& (3689348814741910323 : Int64))) + (((((a0 - (((a0.toUInt64 >>> ((1 : Int32).toInt64.toUInt64 &&& Int64.toUInt64 63)).toInt64) &&& (6148914691236517205 : Int64))) &&& (3689348814741910323 : Int64)) + ((((a0 - (((a0.toUInt64 >>> ((1 : Int32).toInt64.toUInt64 &&& Int64.toUInt64 63)).toInt64) &&& (6148914691236517205 : Int64))).toUInt64 >>> ((2 : Int32).toInt64.toUInt64 &&& Int64.toUInt64 63)).toInt64) &&& (3689348814741910323 : Int64))).toUInt64 >>> ((4 : Int32).toInt64.toUInt64 &&& Int64.toUInt64 63)).toInt64)) &&& (1085102592571150095 : Int64)).toUInt64 >>> ((8 : Int32).toInt64.toUInt64 &&& Int64.toUInt64 63)).toInt64)) + ((((((((a0 - (((a0.toUInt64 >>> ((1 : Int32).toInt64.toUInt64 &&& Int64.toUInt64 63)).toInt64) &&& (6148914691236517205 : Int64))) &&& (3689348814741910323 : Int64)) + ((((a0 - (((a0.toUInt64 >>> ((1 : Int32).toInt64.toUInt64 &&& Int64.toUInt64 63)).toInt64) &&& (6148914691236517205 : Int64))).toUInt64 >>> ((2 : Int32).toInt64.toUInt64 &&& Int64.toUInt64 63)).toInt64) &&& (3689348814741910323 : Int64))) + (((((a0 - (((a0.toUInt64 >>> ((1 : Int32).toInt64.toUInt64 &&& Int64.toUInt64 63)).toInt64) &&& (6148914691236517205 : Int64))) &&& (3689348814741910323 : Int64)) + ((((a0 - (((a0.toUInt64 >>> ((1 : Int32).toInt64.toUInt64 &&& Int64.toUInt64 63)).toInt64) &&& (6148914691236517205 : Int64))).toUInt64 >>> ((2 : Int32).toInt64.toUInt64 &&& Int64.toUInt64 63)).toInt64) &&& (3689348814741910323 : Int64))).toUInt64 >>> ((4 : Int32).toInt64.toUInt64 &&& Int64.toUInt64 63)).toInt64)) &&& (1085102592571150095 : Int64)) + (((((((a0 - (((a0.toUInt64 >>> ((1 : Int32).toInt64.toUInt64 &&& Int64.toUInt64 63)).toInt64) &&& (6148914691236517205 : Int64))) &&& (3689348814741910323 : Int64)) + ((((a0 - (((a0.toUInt64 >>> ((1 : Int32).toInt64.toUInt64 &&& Int64.toUInt64 63)).toInt64) &&& (6148914691236517205 : Int64))).toUInt64 >>> ((2 : Int32).toInt64.toUInt64 &&& Int64.toUInt64 63)).toInt64) &&& (3689348814741910323 : Int64))) + (((((a0 - (((a0.toUInt64 >>> ((1 : Int32).toInt64.toUInt64 &&& Int64.toUInt64 63)).toInt64) &&& (6148914691236517205 : Int64))) &&& (3689348814741910323 : Int64)) + ((((a0 - (((a0.toUInt64 >>> ((1 : Int32).toInt64.toUInt64 &&& Int64.toUInt64 63)).toInt64) &&& (6148914691236517205 : Int64))).toUInt64 >>> ((2 : Int32).toInt64.toUInt64 &&& Int64.toUInt64 63)).toInt64) &&& (3689348814741910323 : Int64))).toUInt64 >>> ((4 : Int32).toInt64.toUInt64 &&& Int64.toUInt64 63)).toInt64)) &&& (1085102592571150095 : Int64)).toUInt64 >>> ((8 : Int32).toInt64.toUInt64 &&& Int64.toUInt64 63)).toInt64)).toUInt64 >>> ((16 : Int32).toInt64.toUInt64 &&& Int64.toUInt64 63)).toInt64)).toUInt64 >>> ((32 : Int32).toInt64.toUInt64 &&& Int64.toUInt64 63)).toInt64)).toInt32) &&& (127 : Int32)) hx hb hr (fun t ht hW => ⟨⟨(((((((((a0 - (((a0.toUInt64 >>> ((1 : Int32).toInt64.toUInt64 &&& Int64.toUInt64 63)).toInt64) &&& (6148914691236517205 : Int64))) &&& (3689348814741910323 : Int64)) + ((((a0 - (((a0.toUInt64 >>> ((1 : Int32).toInt64.toUInt64 &&& Int64.toUInt64 63)).toInt64) &&& (6148914691236517205 : Int64))).toUInt64 >>> ((2 : Int32).toInt64.toUInt64 &&& Int64.toUInt64 63)).toInt64) &&& (3689348814741910323 : Int64))) + (((((a0 - (((a0.toUInt64 >>> ((1 : Int32).toInt64.toUInt64 &&& Int64.toUInt64 63)).toInt64) &&& (6148914691236517205 : Int64))) &&& (3689348814741910323 : Int64)) + ((((a0 - (((a0.toUInt64 >>> ((1 : Int32).toInt64.toUInt64 &&& Int64.toUInt64 63)).toInt64) &&& (6148914691236517205 : Int64))).toUInt64 >>> ((2 : Int32).toInt64.toUInt64 &&& Int64.toUInt64 63)).toInt64) &&& (3689348814741910323 : Int64))).toUInt64 >>> ((4 : Int32).toInt64.toUInt64 &&& Int64.toUInt64 63)).toInt64)) &&& (1085102592571150095 : Int64)) + (((((((a0 - (((a0.toUInt64 >>> ((1 : Int32).toInt64.toUInt64 &&& Int64.toUInt64 63)).toInt64) &&& (6148914691236517205 : Int64))) &&& (3689348814741910323 : Int64)) + ((((a0 - (((a0.toUInt64 >>> ((1 : Int32).toInt64.toUInt64 &&& Int64.toUInt64 63)).toInt64) &&& (6148914691236517205 : Int64))).toUInt64 >>> ((2 : Int32).toInt64.toUInt64 &&& Int64.toUInt64 63)).toInt64) &&& (3689348814741910323 : Int64))) + (((((a0 - (((a0.toUInt64 >>> ((1 : Int32).toInt64.toUInt64 &&& Int64.toUInt64 63)).toInt64) &&& (6148914691236517205 : Int64))) &&& (3689348814741910323 : Int64)) + ((((a0 - (((a0.toUInt64 >>> ((1 : Int32).toInt64.toUInt64 &&& Int64.toUInt64 63)).toInt64) &&& (6148914691236517205 : Int64))).toUInt64 >>> ((2 : Int32).toInt64.toUInt64 &&& Int64.toUInt64 63)).toInt64) &&& (3689348814741910323 : Int64))).toUInt64 >>> ((4 : Int32).toInt64.toUInt64 &&& Int64.toUInt64 63)).toInt64)) &&& (1085102592571150095 : Int64)).toUInt64 >>> ((8 : Int32).toInt64.toUInt64 &&& Int64.toUInt64 63)).toInt64)) + ((((((((a0 - (((a0.toUInt64 >>> ((1 : Int32).toInt64.toUInt64 &&& Int64.toUInt64 63)).toInt64) &&& (6148914691236517205 : Int64))) &&& (3689348814741910323 : Int64)) + ((((a0 - (((a0.toUInt64 >>> ((1 : Int32).toInt64.toUInt64 &&& Int64.toUInt64 63)).toInt64) &&& (6148914691236517205 : Int64))).toUInt64 >>> ((2 : Int32).toInt64.toUInt64 &&& Int64.toUInt64 63)).toInt64) &&& (3689348814741910323 : Int64))) + (((((a0 - (((a0.toUInt64 >>> ((1 : Int32).toInt64.toUInt64 &&& Int64.toUInt64 63)).toInt64) &&& (6148914691236517205 : Int64))) &&& (3689348814741910323 : Int64)) + ((((a0 - (((a0.toUInt64 >>> ((1 : Int32).toInt64.toUInt64 &&& Int64.toUInt64 63)).toInt64) &&& (6148914691236517205 : Int64))).toUInt64 >>> ((2 : Int32).toInt64.toUInt64 &&& Int64.toUInt64 63)).toInt64) &&& (3689348814741910323 : Int64))).toUInt64 >>> ((4 : Int32).toInt64.toUInt64 &&& Int64.toUInt64 63)).toInt64)) &&& (1085102592571150095 : Int64)) + (((((((a0 - (((a0.toUInt64 >>> ((1 : Int32).toInt64.toUInt64 &&& Int64.toUInt64 63)).toInt64) &&& (6148914691236517205 : Int64))) &&& (3689348814741910323 : Int64)) + ((((a0 - (((a0.toUInt64 >>> ((1 : Int32).toInt64.toUInt64 &&& Int64.toUInt64 63)).toInt64) &&& (6148914691236517205 : Int64))).toUInt64 >>> ((2 : Int32).toInt64.toUInt64 &&& Int64.toUInt64 63)).toInt64) &&& (3689348814741910323 : Int64))) + (((((a0 - (((a0.toUInt64 >>> ((1 : Int32).toInt64.toUInt64 &&& Int64.toUInt64 63)).toInt64) &&& (6148914691236517205 : Int64))) &&& (3689348814741910323 : Int64)) + ((((a0 - (((a0.toUInt64 >>> ((1 : Int32).toInt64.toUInt64 &&& Int64.toUInt64 63)).toInt64) &&& (6148914691236517205 : Int64))).toUInt64 >>> ((2 : Int32).toInt64.toUInt64 &&& Int64.toUInt64 63)).toInt64) &&& (3689348814741910323 : Int64))).toUInt64 >>> ((4 : Int32).toInt64.toUInt64 &&& Int64.toUInt64 63)).toInt64)) &&& (1085102592571150095 : Int64)).toUInt64 >>> ((8 : Int32).toInt64.toUInt64 &&& Int64.toUInt64 63)).toInt64)).toUInt64 >>> ((16 : Int32).toInt64.toUInt64 &&& Int64.toUInt64 63)).toInt64)) + (((((((((a0 - (((a0.toUInt64 >>> ((1 : Int32).toInt64.toUInt64 &&& Int64.toUInt64 63)).toInt64) &&& (6148914691236517205 : Int64))) &&& (3689348814741910323 : Int64)) + ((((a0 - (((a0.toUInt64 >>> ((1 : Int32).toInt64.toUInt64 &&& Int64.toUInt64 63)).toInt64) &&& (6148914691236517205 : Int64))).toUInt64 >>> ((2 : Int32).toInt64.toUInt64 &&& Int64.toUInt64 63)).toInt64) &&& (3689348814741910323 : Int64))) + (((((a0 - (((a0.toUInt64 >>> ((1 : Int32).toInt64.toUInt64 &&& Int64.toUInt64 63)).toInt64) &&& (6148914691236517205 : Int64))) &&& (3689348814741910323 : Int64)) + ((((a0 - (((a0.toUInt64 >>> ((1 : Int32).toInt64.toUInt64 &&& Int64.toUInt64 63)).toInt64) &&& (6148914691236517205 : Int64))).toUInt64 >>> ((2 : Int32).toInt64.toUInt64 &&& Int64.toUInt64 63)).toInt64) &&& (3689348814741910323 : Int64))).toUInt64 >>> ((4 : Int32).toInt64.toUInt64 &&& Int64.toUInt64 63)).toInt64)) &&& (1085102592571150095 : Int64)) + (((((((a0 - (((a0.toUInt64 >>> ((1 : Int32).toInt64.toUInt64 &&& Int64.toUInt64 63)).toInt64) &&& (6148914691236517205 : Int64))) &&& (3689348814741910323 : Int64)) + ((((a0 - (((a0.toUInt64 >>> ((1 : Int32).toInt64.toUInt64 &&& Int64.toUInt64 63)).toInt64) &&& (6148914691236517205 : Int64))).toUInt64 >>> ((2 : Int32).toInt64.toUInt64 &&& Int64.toUInt64 63)).toInt64) &&& (3689348814741910323 : Int64))) + (((((a0 - (((a0.toUInt64 >>> ((1 : Int32).toInt64.toUInt64 &&& Int64.toUInt64 63)).toInt64) &&& (6148914691236517205 : Int64))) &&& (3689348814741910323 : Int64)) + ((((a0 - (((a0.toUInt64 >>> ((1 : Int32).toInt64.toUInt64 &&& Int64.toUInt64 63)).toInt64) &&& (6148914691236517205 : Int64))).toUInt64 >>> ((2 : Int32).toInt64.toUInt64 &&& Int64.toUInt64 63)).toInt64) &&& (3689348814741910323 : Int64))).toUInt64 >>> ((4 : Int32).toInt64.toUInt64 &&& Int64.toUInt64 63)).toInt64)) &&& (1085102592571150095 : Int64)).toUInt64 >>> ((8 : Int32).toInt64.toUInt64 &&& Int64.toUInt64 63)).toInt64)) + ((((((((a0 - (((a0.toUInt64 >>> ((1 : Int32).toInt64.toUInt64 &&& Int64.toUInt64 63)).toInt64) &&& (6148914691236517205 : Int64))) &&& (3689348814741910323 : Int64)) + ((((a0 - (((a0.toUInt64 >>> ((1 : Int32).toInt64.toUInt64 &&& Int64.toUInt64 63)).toInt64) &&& (6148914691236517205 : Int64))).toUInt64 >>> ((2 : Int32).toInt64.toUInt64 &&& Int64.toUInt64 63)).toInt64) &&& (3689348814741910323 : Int64))) + (((((a0 - (((a0.toUInt64 >>> ((1 : Int32).toInt64.toUInt64 &&& Int64.toUInt64 63)).toInt64) &&& (6148914691236517205 : Int64))) &&& (3689348814741910323 : Int64)) + ((((a0 - (((a0.toUInt64 >>> ((1 : Int32).toInt64.toUInt64 &&& Int64.toUInt64 63)).toInt64) &&& (6148914691236517205 : Int64))).toUInt64 >>> ((2 : Int32).toInt64.toUInt64 &&& Int64.toUInt64 63)).toInt64) &&& (3689348814741910323 : Int64))).toUInt64 >>> ((4 : Int32).toInt64.toUInt64 &&& Int64.toUInt64 63)).toInt64)) &&& (1085102592571150095 : Int64)) + (((((((a0 - (((a0.toUInt64 >>> ((1 : Int32).toInt64.toUInt64 &&& Int64.toUInt64 63)).toInt64) &&& (6148914691236517205 : Int64))) &&& (3689348814741910323 : Int64)) + ((((a0 - (((a0.toUInt64 >>> ((1 : Int32).toInt64.toUInt64 &&& Int64.toUInt64 63)).toInt64) &&& (6148914691236517205 : Int64))).toUInt64 >>> ((2 : Int32).toInt64.toUInt64 &&& Int64.toUInt64 63)).toInt64) &&& (3689348814741910323 : Int64))) + (((((a0 - (((a0.toUInt64 >>> ((1 : Int32).toInt64.toUInt64 &&& Int64.toUInt64 63)).toInt64) &&& (6148914691236517205 : Int64))) &&& (3689348814741910323 : Int64)) + ((((a0 - (((a0.toUInt64 >>> ((1 : Int32).toInt64.toUInt64 &&& Int64.toUInt64 63)).toInt64) &&& (6148914691236517205 : Int64))).toUInt64 >>> ((2 : Int32).toInt64.toUInt64 &&& Int64.toUInt64 63)).toInt64) &&& (3689348814741910323 : Int64))).toUInt64 >>> ((4 : Int32).toInt64.toUInt64 &&& Int64.toUInt64 63)).toInt64)) &&& (1085102592571150095 : Int64)).toUInt64 >>> ((8 : Int32).toInt64.toUInt64 &&& Int64.toUInt64 63)).toInt64)).toUInt64 >>> ((16 : Int32).toInt64.toUInt64 &&& Int64.toUInt64 63)).toInt64)).toUInt64 >>> ((32 : Int32).toInt64.toUInt64 &&& Int64.toUInt64 63)).toInt64)).toInt32) &&& (127 : Int32), (), rfl, hf.symm, by rw [ht]; exact hP, va_K.moved hW.alike hK⟩, hS.F ht⟩) hS.2.2 d_JL_bitCount_60
set_option maxHeartbeats 4000000 in
set_option maxRecDepth 100000 in
theorem c_Board_isAboveTop (l : Launch) (D : va_G) (cA : Nat → ClassId) (ad : Nat → Nat) (hI : InjA ad) (sz : Nat) (a1 : Int64) (S : SS) (hs : f_Board_isAboveTop a1 S ≠ none) : Met l y_Board_isAboveTop w_Board_isAboveTop ({ frames := 1, cells := 0, slots := 0, locals := 21 }) (va_Pc [.ref (ad 2), .long a1] (fun U => U.heap.size = sz ∧ va_P D vwCl (X cA ad S) U.heap ∧ va_K D vwCl (tysX cA) U)) (va_Qi (fun (r : Int32) (_ : Unit) => f_Board_isAboveTop a1 S = some r ∧ (r = 0 ∨ r = 1)) (fun (_ : Unit) t => va_P D vwCl (X cA ad S) t.heap ∧ va_K D vwCl (tysX cA) t) (AS ad sz)) 0 0 (AS ad sz) := by
  refine Met.ofW (cc := b_Board_isAboveTop) (maxL := 4) (ret := (some .boolean)) (by decide) rfl ?_
  intro p e s m args below meth c s₁ B hml hv
  obtain ⟨rfl, hsz, hP, hK⟩ := hv
  have hx := B.exec
  have hb := B.bytes
  have hr := B.returns
  have hts := atoms_spec (ws := w_Board_isAboveTop) B.pre
  have ht := fun w h => hts w (List.mem_cons_of_mem _ h)
  have hown : s.vm.findClass R_Board = some m.cls := findClass_of_methodNamed B.named
  have hlocks := B.notSynchronized
  subst hsz
  have hAd : ∀ q, q < NP → AS ad s.heap.size (ad q) := fun q h => Or.inl ⟨q, h, rfl⟩
  have hA : ∀ q : Nat, s.heap.size ≤ q → AS ad s.heap.size q := fun q h => Or.inr h
  have hAS : ∀ z : Nat, s.heap.size ≤ z → ∀ q : Nat, AS ad z q → AS ad s.heap.size q := fun z h q hq => hq.elim Or.inl (fun g => Or.inr (Nat.le_trans h g))
  generalize hAe : AS ad s.heap.size = A at hAd hA hAS ⊢
  have hS : va_S A s.heap s.heap [] := va_S.rf
  have hl := lv_entry ([.ref (ad 2), .long a1]) (n := 4) (Nat.le_of_ble_eq_true rfl)
  rw [lg_entry_eq]
  generalize (lg_sl ([.ref (ad 2), .long a1]) ++ List.replicate (4 - (lg_sl ([.ref (ad 2), .long a1])).length) Slot.unset).toArray = ls at hl ⊢
  have hl : lv_has ls 4 [(0, .ref (ad 2)), (1, .long a1)] := hl
  have hf := (f_Board_isAboveTop_s a1 S).symm
  generalize hQ : MQ below _ _ s _ _ _ = Q
  refine lv_iconst (v := 0) hx hb d_Board_isAboveTop_0 (by decide) ?_
  refine lv_istore_n (lv' := [(3, .int (0 : Int32)), (0, .ref (ad 2)), (1, .long a1)]) hx hb d_Board_isAboveTop_1 rfl hl (by decide) rfl (fun ls hl => ?_)
  have lp2_1 : ∀ (n : Nat) (x3_1 : Int32) (H : Heap) (locs : List Loc) (ls : Array Slot), va_P D vwCl (X cA ad S) H → va_S A s.heap H locs → lv_has ls 4 [(0, .ref (ad 2)), (1, .long a1), (3, .int x3_1)] → f_Board_isAboveTop_L2 a1 n x3_1 S ≠ none →
      (∀ o : Int32, f_Board_isAboveTop_L2 a1 n x3_1 S = some (.inl o) → f_Board_isAboveTop a1 S = some o) →
      (∀ v : Unit, f_Board_isAboveTop_L2 a1 n x3_1 S = some (.inr v) → ∀ (H : Heap) (locs : List Loc) (ls : Array Slot), va_P D vwCl (X cA ad S) H → va_S A s.heap H locs → lv_has ls 4 [(0, .ref (ad 2)), (1, .long a1)] → W p l e (headSpec w_Board_isAboveTop ({ frames := 1, cells := 0, slots := 0, locals := 21 })).room s m ([.ref (ad 2), .long a1] : List Value).toArray below meth c H locs 0 0 Q (F0 m 44 ls [])) →
      W p l e (headSpec w_Board_isAboveTop ({ frames := 1, cells := 0, slots := 0, locals := 21 })).room s m ([.ref (ad 2), .long a1] : List Value).toArray below meth c H locs 0 0 Q (F0 m 2 ls []) := by
    intro n
    induction n with
    | zero => intro x3_1 H locs ls hP hS hl hs; exact absurd rfl hs
    | succ n ih =>
      intro x3_1 H locs ls hP hS hl hs hret hexit
      have hf := (f_Board_isAboveTop_L2_s a1 n x3_1 S).symm
      refine lv_iload_n hx hb d_Board_isAboveTop_2 rfl (lv_at hl 2 rfl) ?_
      refine lv_aload_n hx hb d_Board_isAboveTop_3 rfl (lv_at hl 0 rfl) ?_
      refine va_get (D := D) (ci := 2) (v := .ref (ad 1)) (C := R_Board) (T := T_Board) (N := 7) hx hb ht i_Board hown hK hP 2 Xa_2 rfl 0 (by decide) (ht _ mF_Board_29) (fun _ h9 => h9) rfl d_Board_isAboveTop_4 ?_
      refine va_get (D := D) (ci := 1) (v := .int (S.1 1 0)) (C := R_Law) (T := T_Law) (N := 5) hx hb ht i_Law hown hK hP 1 Xa_1 rfl 0 (by decide) (ht _ mF_Board_79) (fun _ h9 => h9) rfl d_Board_isAboveTop_7 ?_
      refine lv_icmp_ge (tgt := 44) hx hb d_Board_isAboveTop_10 (by decide) (fun c1 => ?_) (fun c1 => ?_)
      · rw [if_pos c1] at hf
        exact hexit _ hf.symm _ _ _ hP hS (lv_sub hl [0, 1] rfl)
      · rw [if_neg c1] at hf
        refine lv_lload_n hx hb d_Board_isAboveTop_13 rfl (lv_at hl 1 rfl) ?_
        refine lv_iload_n hx hb d_Board_isAboveTop_14 rfl (lv_at hl 2 rfl) ?_
        refine lv_bipush (v := 8) hx hb d_Board_isAboveTop_15 (by decide) ?_
        refine lv_imul hx hb d_Board_isAboveTop_17 ?_
        refine lv_lushr hx hb d_Board_isAboveTop_18 rfl ?_
        refine lv_ldc2 (v := 255) hx hb hown (ht _ mC_Board_84) d_Board_isAboveTop_19 ?_
        refine lv_land hx hb d_Board_isAboveTop_22 ?_
        refine va_calli (va_runS (As := [.long (((a1.toUInt64 >>> ((x3_1 * (8 : Int32)).toInt64.toUInt64 &&& Int64.toUInt64 63)).toInt64) &&& (255 : Int64))]) (rest := []) ⟨hx, hb, hml, hown, ht⟩ (c_JL_bitCount l D cA ad hI H.size (((a1.toUInt64 >>> ((x3_1 * (8 : Int32)).toInt64.toUInt64 &&& Int64.toUInt64 63)).toInt64) &&& (255 : Int64)) S (fun hn => hs (by rw [hn] at hf; exact hf.symm))) (va_cwS 1 ht (good_G (gS mM_Board_86 mS_JL_bitCount mN_JL mk_JL_bitCount)) rfl rfl rfl (by decide +kernel) ⟨Nat.le_of_ble_eq_true rfl, Nat.le_of_ble_eq_true rfl⟩) ⟨fun a U g mk q => ⟨q.1, q.2.1, q.2.2.1, va_K.moved (u := U) (U := U.calling g mk a) (Vm.Alike.refl U.vm) q.2.2.2⟩, fun U hU hW => ⟨rfl, by rw [hU], by rw [hU]; exact hP, va_K.moved hW.alike hK⟩⟩ rfl rfl hl.1 rfl (lv_room (Nat.le_of_ble_eq_true rfl)) d_Board_isAboveTop_23 ⟨Nat.le_of_ble_eq_true rfl, Nat.le_of_ble_eq_true rfl⟩) hS (fun q _ h => hAS _ hS.1 q h) (fun q h => hAS _ hS.1 q h) (fun r1 _ t H locs ht9 hvm hw hB hz1 hk1 hS => ?_)
        obtain ⟨hP, hK9⟩ := hB
        rw [ht9] at hP
        rw [hw, Option.bind_some] at hf
        refine lv_aload_n hx hb d_Board_isAboveTop_26 rfl (lv_at hl 0 rfl) ?_
        refine va_get (D := D) (ci := 2) (v := .ref (ad 1)) (C := R_Board) (T := T_Board) (N := 7) hx hb ht i_Board hown hK hP 2 Xa_2 rfl 0 (by decide) (ht _ mF_Board_29) (fun _ h9 => h9) rfl d_Board_isAboveTop_27 ?_
        refine va_get (D := D) (ci := 1) (v := .int (S.1 1 3)) (C := R_Law) (T := T_Law) (N := 5) hx hb ht i_Law hown hK hP 1 Xa_1 rfl 3 (by decide) (ht _ mF_Board_91) (fun _ h9 => h9) rfl d_Board_isAboveTop_30 ?_
        refine lv_icmp_le (tgt := 38) hx hb d_Board_isAboveTop_33 (by decide) (fun c2 => ?_) (fun c2 => ?_)
        · rw [if_pos c2] at hf
          refine lv_iinc (v := x3_1 + 1) (lv' := [(3, .int (x3_1 + 1)), (0, .ref (ad 2)), (1, .long a1)]) hx hb d_Board_isAboveTop_38 hl (k := 2) rfl rfl (by decide) rfl (fun ls hl => ?_)
          refine lv_goto (tgt := 2) hx hb d_Board_isAboveTop_41 (by decide) ?_
          exact ih (x3_1 + 1) _ _ _ hP hS (lv_sub hl [1, 2, 0] rfl) (fun hn => hs (hf.symm.trans hn)) (fun o ho => hret o (hf.symm.trans ho)) (fun v ho => hexit v (hf.symm.trans ho))
        · rw [if_neg c2] at hf
          refine lv_iconst (v := 1) hx hb d_Board_isAboveTop_36 (by decide) ?_
          rw [← hQ]
          have hz : (1 : Int32) = 0 ∨ (1 : Int32) = 1 := Or.inr rfl
          exact W.zret (v := (1 : Int32)) hx hb hr (zb_n hz) (fun t ht hW => ⟨⟨(1 : Int32), (), rfl, ⟨hret _ hf.symm, hz⟩, by rw [ht]; exact hP, va_K.moved hW.alike hK⟩, hS.F ht⟩) hS.2.2 d_Board_isAboveTop_37
  refine lp2_1 FU (0 : Int32) _ _ _ hP hS (lv_sub hl [1, 2, 0] rfl) (fun hn => ?_) (fun o ho => ?_) (fun v3 hvv3 H locs ls hP hS hl => ?_)
  · rw [hn] at hf; exact hs hf.symm
  · rw [ho, Option.bind_some, Sum.elim_inl] at hf; exact hf.symm
  · rw [hvv3, Option.bind_some, Sum.elim_inr] at hf
    refine lv_iconst (v := 0) hx hb d_Board_isAboveTop_44 (by decide) ?_
    rw [← hQ]
    have hz : (0 : Int32) = 0 ∨ (0 : Int32) = 1 := Or.inl rfl
    exact W.zret (v := (0 : Int32)) hx hb hr (zb_n hz) (fun t ht hW => ⟨⟨(0 : Int32), (), rfl, ⟨hf.symm, hz⟩, by rw [ht]; exact hP, va_K.moved hW.alike hK⟩, hS.F ht⟩) hS.2.2 d_Board_isAboveTop_45
set_option maxHeartbeats 4000000 in
set_option maxRecDepth 100000 in
theorem c_Board_strangerFits (l : Launch) (D : va_G) (cA : Nat → ClassId) (ad : Nat → Nat) (hI : InjA ad) (sz : Nat) (a1 : Int64) (a3 : Int32) (a4 : Int32) (S : SS) (hs : f_Board_strangerFits a1 a3 a4 S ≠ none) : Met l y_Board_strangerFits w_Board_strangerFits ({ frames := 1, cells := 0, slots := 0, locals := 23 }) (va_Pc [.ref (ad 2), .long a1, .int a3, .int a4] (fun U => U.heap.size = sz ∧ va_P D vwCl (X cA ad S) U.heap ∧ va_K D vwCl (tysX cA) U)) (va_Qi (fun (r : Int32) (_ : Unit) => f_Board_strangerFits a1 a3 a4 S = some r ∧ (r = 0 ∨ r = 1)) (fun (_ : Unit) t => va_P D vwCl (X cA ad S) t.heap ∧ va_K D vwCl (tysX cA) t) (AS ad sz)) 0 0 (AS ad sz) := by
  refine Met.ofW (cc := b_Board_strangerFits) (maxL := 6) (ret := (some .boolean)) (by decide) rfl ?_
  intro p e s m args below meth c s₁ B hml hv
  obtain ⟨rfl, hsz, hP, hK⟩ := hv
  have hx := B.exec
  have hb := B.bytes
  have hr := B.returns
  have hts := atoms_spec (ws := w_Board_strangerFits) B.pre
  have ht := fun w h => hts w (List.mem_cons_of_mem _ h)
  have hown : s.vm.findClass R_Board = some m.cls := findClass_of_methodNamed B.named
  have hlocks := B.notSynchronized
  subst hsz
  have hAd : ∀ q, q < NP → AS ad s.heap.size (ad q) := fun q h => Or.inl ⟨q, h, rfl⟩
  have hA : ∀ q : Nat, s.heap.size ≤ q → AS ad s.heap.size q := fun q h => Or.inr h
  have hAS : ∀ z : Nat, s.heap.size ≤ z → ∀ q : Nat, AS ad z q → AS ad s.heap.size q := fun z h q hq => hq.elim Or.inl (fun g => Or.inr (Nat.le_trans h g))
  generalize hAe : AS ad s.heap.size = A at hAd hA hAS ⊢
  have hS : va_S A s.heap s.heap [] := va_S.rf
  have hl := lv_entry ([.ref (ad 2), .long a1, .int a3, .int a4]) (n := 6) (Nat.le_of_ble_eq_true rfl)
  rw [lg_entry_eq]
  generalize (lg_sl ([.ref (ad 2), .long a1, .int a3, .int a4]) ++ List.replicate (6 - (lg_sl ([.ref (ad 2), .long a1, .int a3, .int a4])).length) Slot.unset).toArray = ls at hl ⊢
  have hl : lv_has ls 6 [(0, .ref (ad 2)), (1, .long a1), (3, .int a3), (4, .int a4)] := hl
  have hf := (f_Board_strangerFits_s a1 a3 a4 S).symm
  generalize hQ : MQ below _ _ s _ _ _ = Q
  refine lv_iconst (v := 0) hx hb d_Board_strangerFits_0 (by decide) ?_
  refine lv_istore (lv' := [(5, .int (0 : Int32)), (0, .ref (ad 2)), (1, .long a1), (3, .int a3), (4, .int a4)]) hx hb d_Board_strangerFits_1 hl (by decide) rfl (fun ls hl => ?_)
  have lp3_1 : ∀ (n : Nat) (x5_1 : Int32) (H : Heap) (locs : List Loc) (ls : Array Slot), va_P D vwCl (X cA ad S) H → va_S A s.heap H locs → lv_has ls 6 [(0, .ref (ad 2)), (1, .long a1), (3, .int a3), (4, .int a4), (5, .int x5_1)] → f_Board_strangerFits_L3 a1 a3 a4 n x5_1 S ≠ none →
      (∀ o : Int32, f_Board_strangerFits_L3 a1 a3 a4 n x5_1 S = some (.inl o) → f_Board_strangerFits a1 a3 a4 S = some o) →
      (∀ v : Unit, f_Board_strangerFits_L3 a1 a3 a4 n x5_1 S = some (.inr v) → ∀ (H : Heap) (locs : List Loc) (ls : Array Slot), va_P D vwCl (X cA ad S) H → va_S A s.heap H locs → lv_has ls 6 [(0, .ref (ad 2)), (1, .long a1), (3, .int a3), (4, .int a4)] → W p l e (headSpec w_Board_strangerFits ({ frames := 1, cells := 0, slots := 0, locals := 23 })).room s m ([.ref (ad 2), .long a1, .int a3, .int a4] : List Value).toArray below meth c H locs 0 0 Q (F0 m 42 ls [])) →
      W p l e (headSpec w_Board_strangerFits ({ frames := 1, cells := 0, slots := 0, locals := 23 })).room s m ([.ref (ad 2), .long a1, .int a3, .int a4] : List Value).toArray below meth c H locs 0 0 Q (F0 m 3 ls []) := by
    intro n
    induction n with
    | zero => intro x5_1 H locs ls hP hS hl hs; exact absurd rfl hs
    | succ n ih =>
      intro x5_1 H locs ls hP hS hl hs hret hexit
      have hf := (f_Board_strangerFits_L3_s a1 a3 a4 n x5_1 S).symm
      refine lv_iload hx hb d_Board_strangerFits_3 (lv_at hl 4 rfl) ?_
      refine lv_iload hx hb d_Board_strangerFits_5 (lv_at hl 3 rfl) ?_
      refine lv_icmp_ge (tgt := 42) hx hb d_Board_strangerFits_7 (by decide) (fun c1 => ?_) (fun c1 => ?_)
      · rw [if_pos c1] at hf
        exact hexit _ hf.symm _ _ _ hP hS (lv_sub hl [0, 1, 2, 3] rfl)
      · rw [if_neg c1] at hf
        refine lv_aload_n hx hb d_Board_strangerFits_10 rfl (lv_at hl 0 rfl) ?_
        refine lv_iload hx hb d_Board_strangerFits_11 (lv_at hl 4 rfl) ?_
        refine lv_iload_n hx hb d_Board_strangerFits_13 rfl (lv_at hl 2 rfl) ?_
        refine va_calli (va_runV (As := [.int x5_1, .int a3]) (rest := []) ⟨hx, hb, hml, hown, ht⟩ (c_Board_mustOpen l D cA ad hI H.size x5_1 a3 S (fun hn => hs (by rw [hn] at hf; exact hf.symm))) (cwV 2 ht (good_G (gV mM_Board_68 mI_Board_mustOpen mV_Board_mustOpen mN_Board mk_Board_mustOpen)) rfl rfl rfl (by decide +kernel) ⟨Nat.le_of_ble_eq_true rfl, Nat.le_of_ble_eq_true rfl⟩) ⟨fun a U g mk q => ⟨q.1, q.2.1, q.2.2.1, va_K.moved (u := U) (U := U.calling g mk a) (Vm.Alike.refl U.vm) q.2.2.2⟩, va_recv hK hP (ci := 2) (q0 := 2) rfl Xa_2, fun U hU hW => ⟨rfl, by rw [hU], by rw [hU]; exact hP, va_K.moved hW.alike hK⟩⟩ rfl rfl hl.1 rfl (lv_room (Nat.le_of_ble_eq_true rfl)) d_Board_strangerFits_14 ⟨Nat.le_of_ble_eq_true rfl, Nat.le_of_ble_eq_true rfl⟩) hS (fun q _ h => hAS _ hS.1 q h) (fun q h => hAS _ hS.1 q h) (fun r1 _ t H locs ht9 hvm hw hB hz1 hk1 hS => ?_)
        obtain ⟨hP, hK9⟩ := hB
        rw [ht9] at hP
        obtain ⟨hw, hz1⟩ := hw
        rw [hw, Option.bind_some] at hf
        refine lv_if_ne (tgt := 36) hx hb d_Board_strangerFits_17 (by decide) (fun c2 => ?_) (fun c2 => ?_)
        · rw [if_neg c2] at hf
          refine lv_iinc (v := x5_1 + 1) (lv' := [(5, .int (x5_1 + 1)), (0, .ref (ad 2)), (1, .long a1), (3, .int a3), (4, .int a4)]) hx hb d_Board_strangerFits_36 hl (k := 4) rfl rfl (by decide) rfl (fun ls hl => ?_)
          refine lv_goto (tgt := 3) hx hb d_Board_strangerFits_39 (by decide) ?_
          exact ih (x5_1 + 1) _ _ _ hP hS (lv_sub hl [1, 2, 3, 4, 0] rfl) (fun hn => hs (hf.symm.trans hn)) (fun o ho => hret o (hf.symm.trans ho)) (fun v ho => hexit v (hf.symm.trans ho))
        · rw [if_pos c2] at hf
          refine lv_aload_n hx hb d_Board_strangerFits_20 rfl (lv_at hl 0 rfl) ?_
          refine va_get (D := D) (ci := 2) (v := .ref (ad 7)) (C := R_Board) (T := T_Board) (N := 7) hx hb ht i_Board hown hK hP 2 Xa_2 rfl 5 (by decide) (ht _ mF_Board_20) (fun _ h9 => h9) rfl d_Board_strangerFits_21 ?_
          refine lv_iload hx hb d_Board_strangerFits_24 (lv_at hl 4 rfl) ?_
          by_cases b3 : oob x5_1 8
          · rw [if_pos b3] at hf; exact absurd hf.symm hs
          rw [if_neg b3] at hf
          refine va_lald (f := S.2 7) hx hb hK hP 7 1 Xa_7 rfl b3 d_Board_strangerFits_26 ?_
          refine lv_lload_n hx hb d_Board_strangerFits_27 rfl (lv_at hl 1 rfl) ?_
          refine va_calli (va_runS (As := [.long (S.2 7 x5_1.toNatClampNeg), .long a1]) (rest := []) ⟨hx, hb, hml, hown, ht⟩ (c_Board_isWithin l D cA ad hI H.size (S.2 7 x5_1.toNatClampNeg) a1 S (fun hn => hs (by rw [hn] at hf; exact hf.symm))) (va_cwS 2 ht (good_G (gS mM_Board_48 mS_Board_isWithin mN_Board mk_Board_isWithin)) rfl rfl rfl (by decide +kernel) ⟨Nat.le_of_ble_eq_true rfl, Nat.le_of_ble_eq_true rfl⟩) ⟨fun a U g mk q => ⟨q.1, q.2.1, q.2.2.1, va_K.moved (u := U) (U := U.calling g mk a) (Vm.Alike.refl U.vm) q.2.2.2⟩, fun U hU hW => ⟨rfl, by rw [hU], by rw [hU]; exact hP, va_K.moved hW.alike hK⟩⟩ rfl rfl hl.1 rfl (lv_room (Nat.le_of_ble_eq_true rfl)) d_Board_strangerFits_28 ⟨Nat.le_of_ble_eq_true rfl, Nat.le_of_ble_eq_true rfl⟩) hS (fun q _ h => hAS _ hS.1 q h) (fun q h => hAS _ hS.1 q h) (fun r2 _ t H locs ht9 hvm hw hB hz1 hk1 hS => ?_)
          obtain ⟨hP, hK9⟩ := hB
          rw [ht9] at hP
          obtain ⟨hw, hz2⟩ := hw
          rw [hw, Option.bind_some] at hf
          refine lv_if_eq (tgt := 36) hx hb d_Board_strangerFits_31 (by decide) (fun c4 => ?_) (fun c4 => ?_)
          · rw [if_pos c4] at hf
            refine lv_iinc (v := x5_1 + 1) (lv' := [(5, .int (x5_1 + 1)), (0, .ref (ad 2)), (1, .long a1), (3, .int a3), (4, .int a4)]) hx hb d_Board_strangerFits_36 hl (k := 4) rfl rfl (by decide) rfl (fun ls hl => ?_)
            refine lv_goto (tgt := 3) hx hb d_Board_strangerFits_39 (by decide) ?_
            exact ih (x5_1 + 1) _ _ _ hP hS (lv_sub hl [1, 2, 3, 4, 0] rfl) (fun hn => hs (hf.symm.trans hn)) (fun o ho => hret o (hf.symm.trans ho)) (fun v ho => hexit v (hf.symm.trans ho))
          · rw [if_neg c4] at hf
            refine lv_iconst (v := 1) hx hb d_Board_strangerFits_34 (by decide) ?_
            rw [← hQ]
            have hz : (1 : Int32) = 0 ∨ (1 : Int32) = 1 := Or.inr rfl
            exact W.zret (v := (1 : Int32)) hx hb hr (zb_n hz) (fun t ht hW => ⟨⟨(1 : Int32), (), rfl, ⟨hret _ hf.symm, hz⟩, by rw [ht]; exact hP, va_K.moved hW.alike hK⟩, hS.F ht⟩) hS.2.2 d_Board_strangerFits_35
  refine lp3_1 FU (0 : Int32) _ _ _ hP hS (lv_sub hl [1, 2, 3, 4, 0] rfl) (fun hn => ?_) (fun o ho => ?_) (fun v5 hvv5 H locs ls hP hS hl => ?_)
  · rw [hn] at hf; exact hs hf.symm
  · rw [ho, Option.bind_some, Sum.elim_inl] at hf; exact hf.symm
  · rw [hvv5, Option.bind_some, Sum.elim_inr] at hf
    refine lv_iconst (v := 0) hx hb d_Board_strangerFits_42 (by decide) ?_
    rw [← hQ]
    have hz : (0 : Int32) = 0 ∨ (0 : Int32) = 1 := Or.inl rfl
    exact W.zret (v := (0 : Int32)) hx hb hr (zb_n hz) (fun t ht hW => ⟨⟨(0 : Int32), (), rfl, ⟨hf.symm, hz⟩, by rw [ht]; exact hP, va_K.moved hW.alike hK⟩, hS.F ht⟩) hS.2.2 d_Board_strangerFits_43
set_option maxHeartbeats 4000000 in
set_option maxRecDepth 100000 in
theorem c_Board_doorAccepts (l : Launch) (D : va_G) (cA : Nat → ClassId) (ad : Nat → Nat) (hI : InjA ad) (sz : Nat) (a1 : Int32) (a2 : Int32) (S : SS) (hs : f_Board_doorAccepts a1 a2 S ≠ none) : Met l y_Board_doorAccepts w_Board_doorAccepts ({ frames := 2, cells := 0, slots := 0, locals := 48 }) (va_Pc [.ref (ad 2), .int a1, .int a2] (fun U => U.heap.size = sz ∧ va_P D vwCl (X cA ad S) U.heap ∧ va_K D vwCl (tysX cA) U)) (va_Qi (fun (r : Int32) (u : SS) => f_Board_doorAccepts a1 a2 S = some (r, u) ∧ (r = 0 ∨ r = 1)) (fun (u : SS) t => va_P D vwCl (X cA ad u) t.heap ∧ va_K D vwCl (tysX cA) t) (AS ad sz)) 0 0 (AS ad sz) := by
  refine Met.ofW (cc := b_Board_doorAccepts) (maxL := 7) (ret := (some .boolean)) (by decide) rfl ?_
  intro p e s m args below meth c s₁ B hml hv
  obtain ⟨rfl, hsz, hP, hK⟩ := hv
  have hx := B.exec
  have hb := B.bytes
  have hr := B.returns
  have hts := atoms_spec (ws := w_Board_doorAccepts) B.pre
  have ht := fun w h => hts w (List.mem_cons_of_mem _ h)
  have hown : s.vm.findClass R_Board = some m.cls := findClass_of_methodNamed B.named
  have hlocks := B.notSynchronized
  subst hsz
  have hAd : ∀ q, q < NP → AS ad s.heap.size (ad q) := fun q h => Or.inl ⟨q, h, rfl⟩
  have hA : ∀ q : Nat, s.heap.size ≤ q → AS ad s.heap.size q := fun q h => Or.inr h
  have hAS : ∀ z : Nat, s.heap.size ≤ z → ∀ q : Nat, AS ad z q → AS ad s.heap.size q := fun z h q hq => hq.elim Or.inl (fun g => Or.inr (Nat.le_trans h g))
  generalize hAe : AS ad s.heap.size = A at hAd hA hAS ⊢
  have hS : va_S A s.heap s.heap [] := va_S.rf
  have hl := lv_entry ([.ref (ad 2), .int a1, .int a2]) (n := 7) (Nat.le_of_ble_eq_true rfl)
  rw [lg_entry_eq]
  generalize (lg_sl ([.ref (ad 2), .int a1, .int a2]) ++ List.replicate (7 - (lg_sl ([.ref (ad 2), .int a1, .int a2])).length) Slot.unset).toArray = ls at hl ⊢
  have hl : lv_has ls 7 [(0, .ref (ad 2)), (1, .int a1), (2, .int a2)] := hl
  have hf := (f_Board_doorAccepts_s a1 a2 S).symm
  generalize hQ : MQ below _ _ s _ _ _ = Q
  refine lv_aload_n hx hb d_Board_doorAccepts_0 rfl (lv_at hl 0 rfl) ?_
  refine va_get (D := D) (ci := 2) (v := .ref (ad 7)) (C := R_Board) (T := T_Board) (N := 7) hx hb ht i_Board hown hK hP 2 Xa_2 rfl 5 (by decide) (ht _ mF_Board_20) (fun _ h9 => h9) rfl d_Board_doorAccepts_1 ?_
  refine lv_iload_n hx hb d_Board_doorAccepts_4 rfl (lv_at hl 2 rfl) ?_
  by_cases b1 : oob a2 8
  · rw [if_pos b1] at hf; exact absurd hf.symm hs
  rw [if_neg b1] at hf
  refine va_lald (f := S.2 7) hx hb hK hP 7 1 Xa_7 rfl b1 d_Board_doorAccepts_5 ?_
  refine lv_lstore_n (lv' := [(3, .long (S.2 7 a2.toNatClampNeg)), (0, .ref (ad 2)), (1, .int a1), (2, .int a2)]) hx hb d_Board_doorAccepts_6 rfl hl (by decide) rfl (fun ls hl => ?_)
  refine lv_aload_n hx hb d_Board_doorAccepts_7 rfl (lv_at hl 1 rfl) ?_
  refine va_get (D := D) (ci := 2) (v := .ref (ad 8)) (C := R_Board) (T := T_Board) (N := 7) hx hb ht i_Board hown hK hP 2 Xa_2 rfl 6 (by decide) (ht _ mF_Board_26) (fun _ h9 => h9) rfl d_Board_doorAccepts_8 ?_
  refine lv_iload_n hx hb d_Board_doorAccepts_11 rfl (lv_at hl 3 rfl) ?_
  by_cases b2 : oob a2 9
  · rw [if_pos b2] at hf; exact absurd hf.symm hs
  rw [if_neg b2] at hf
  refine gz_aald hx hb hK hP 8 3 Xa_8 rfl b2 d_Board_doorAccepts_12 ?_
  rw [X_row b2]
  refine lv_iload_n hx hb d_Board_doorAccepts_13 rfl (lv_at hl 2 rfl) ?_
  by_cases b3 : oob a1 6
  · rw [if_pos b3] at hf; exact absurd hf.symm hs
  rw [if_neg b3] at hf
  refine va_lald (f := S.2 (18 + a2.toNatClampNeg)) hx hb hK hP (18 + a2.toNatClampNeg) 1 (X_rowat8 b2) rfl b3 d_Board_doorAccepts_14 ?_
  refine lv_lstore (lv' := [(5, .long (S.2 (18 + a2.toNatClampNeg) a1.toNatClampNeg)), (3, .long (S.2 7 a2.toNatClampNeg)), (0, .ref (ad 2)), (1, .int a1), (2, .int a2)]) hx hb d_Board_doorAccepts_15 hl (by decide) rfl (fun ls hl => ?_)
  refine lv_aload_n hx hb d_Board_doorAccepts_17 rfl (lv_at hl 2 rfl) ?_
  refine lv_iload_n hx hb d_Board_doorAccepts_18 rfl (lv_at hl 4 rfl) ?_
  refine lv_iload_n hx hb d_Board_doorAccepts_19 rfl (lv_at hl 3 rfl) ?_
  refine va_calli (va_runV (As := [.int a2, .int a1]) (rest := []) ⟨hx, hb, hml, hown, ht⟩ (c_Board_mustOpen l D cA ad hI s.heap.size a2 a1 S (fun hn => hs (by rw [hn] at hf; exact hf.symm))) (cwV 2 ht (good_G (gV mM_Board_68 mI_Board_mustOpen mV_Board_mustOpen mN_Board mk_Board_mustOpen)) rfl rfl rfl (by decide +kernel) ⟨Nat.le_of_ble_eq_true rfl, Nat.le_of_ble_eq_true rfl⟩) ⟨fun a U g mk q => ⟨q.1, q.2.1, q.2.2.1, va_K.moved (u := U) (U := U.calling g mk a) (Vm.Alike.refl U.vm) q.2.2.2⟩, va_recv hK hP (ci := 2) (q0 := 2) rfl Xa_2, fun U hU hW => ⟨rfl, by rw [hU], by rw [hU]; exact hP, va_K.moved hW.alike hK⟩⟩ rfl rfl hl.1 rfl (lv_room (Nat.le_of_ble_eq_true rfl)) d_Board_doorAccepts_20 ⟨Nat.le_of_ble_eq_true rfl, Nat.le_of_ble_eq_true rfl⟩) hS (fun q _ h => hAS _ hS.1 q h) (fun q h => hAS _ hS.1 q h) (fun r1 _ t H locs ht9 hvm hw hB hz1 hk1 hS => ?_)
  obtain ⟨hP, hK9⟩ := hB
  rw [ht9] at hP
  obtain ⟨hw, hz1⟩ := hw
  rw [hw, Option.bind_some] at hf
  refine lv_if_eq (tgt := 54) hx hb d_Board_doorAccepts_23 (by decide) (fun c4 => ?_) (fun c4 => ?_)
  · rw [if_pos c4] at hf
    refine lv_lload_n hx hb d_Board_doorAccepts_54 rfl (lv_at hl 1 rfl) ?_
    refine lv_lload hx hb d_Board_doorAccepts_55 (lv_at hl 0 rfl) ?_
    refine va_calli (va_runS (As := [.long (S.2 7 a2.toNatClampNeg), .long (S.2 (18 + a2.toNatClampNeg) a1.toNatClampNeg)]) (rest := []) ⟨hx, hb, hml, hown, ht⟩ (c_Board_isWithin l D cA ad hI H.size (S.2 7 a2.toNatClampNeg) (S.2 (18 + a2.toNatClampNeg) a1.toNatClampNeg) S (fun hn => hs (by rw [hn] at hf; exact hf.symm))) (va_cwS 2 ht (good_G (gS mM_Board_48 mS_Board_isWithin mN_Board mk_Board_isWithin)) rfl rfl rfl (by decide +kernel) ⟨Nat.le_of_ble_eq_true rfl, Nat.le_of_ble_eq_true rfl⟩) ⟨fun a U g mk q => ⟨q.1, q.2.1, q.2.2.1, va_K.moved (u := U) (U := U.calling g mk a) (Vm.Alike.refl U.vm) q.2.2.2⟩, fun U hU hW => ⟨rfl, by rw [hU], by rw [hU]; exact hP, va_K.moved hW.alike hK⟩⟩ rfl rfl hl.1 rfl (lv_room (Nat.le_of_ble_eq_true rfl)) d_Board_doorAccepts_57 ⟨Nat.le_of_ble_eq_true rfl, Nat.le_of_ble_eq_true rfl⟩) hS (fun q _ h => hAS _ hS.1 q h) (fun q h => hAS _ hS.1 q h) (fun r2 _ t H locs ht9 hvm hw hB hz1 hk1 hS => ?_)
    obtain ⟨hP, hK9⟩ := hB
    rw [ht9] at hP
    obtain ⟨hw, hz2⟩ := hw
    rw [hw, Option.bind_some] at hf
    refine lv_if_eq (tgt := 65) hx hb d_Board_doorAccepts_60 (by decide) (fun c5 => ?_) (fun c5 => ?_)
    · rw [if_pos c5] at hf
      refine lv_aload_n hx hb d_Board_doorAccepts_65 rfl (lv_at hl 2 rfl) ?_
      refine va_get (D := D) (ci := 2) (v := .ref (ad 8)) (C := R_Board) (T := T_Board) (N := 7) hx hb ht i_Board hown hK hP 2 Xa_2 rfl 6 (by decide) (ht _ mF_Board_26) (fun _ h9 => h9) rfl d_Board_doorAccepts_66 ?_
      refine lv_iload_n hx hb d_Board_doorAccepts_69 rfl (lv_at hl 4 rfl) ?_
      refine lv_iconst (v := 1) hx hb d_Board_doorAccepts_70 (by decide) ?_
      refine lv_iadd hx hb d_Board_doorAccepts_71 ?_
      by_cases b6 : oob (a2 + (1 : Int32)) 9
      · rw [if_pos b6] at hf; exact absurd hf.symm hs
      rw [if_neg b6] at hf
      refine gz_aald hx hb hK hP 8 3 Xa_8 rfl b6 d_Board_doorAccepts_72 ?_
      rw [X_row b6]
      refine lv_iload_n hx hb d_Board_doorAccepts_73 rfl (lv_at hl 3 rfl) ?_
      refine lv_lload hx hb d_Board_doorAccepts_74 (lv_at hl 0 rfl) ?_
      refine va_last hx hb hK hP (X_D hI hAd) hS (18 + (a2 + (1 : Int32)).toNatClampNeg) 1 (X_rowat8 b6) rfl b3 d_Board_doorAccepts_76 (fun H locs hP _ hS => ?_)
      replace hP := X_stL (X_rowlt8 b6) (X_rowcell8 b6) hP
      refine lv_iconst (v := 1) hx hb d_Board_doorAccepts_77 (by decide) ?_
      rw [← hQ]
      have hz : (1 : Int32) = 0 ∨ (1 : Int32) = 1 := Or.inr rfl
      exact W.zret (v := (1 : Int32)) hx hb hr (zb_n hz) (fun t ht hW => ⟨⟨(1 : Int32), wL S (18 + (a2 + (1 : Int32)).toNatClampNeg) a1.toNatClampNeg (S.2 (18 + a2.toNatClampNeg) a1.toNatClampNeg), rfl, ⟨hf.symm, hz⟩, by rw [ht]; exact hP, va_K.moved hW.alike hK⟩, hS.F ht⟩) hS.2.2 d_Board_doorAccepts_78
    · rw [if_neg c5] at hf
      refine lv_iconst (v := 0) hx hb d_Board_doorAccepts_63 (by decide) ?_
      rw [← hQ]
      have hz : (0 : Int32) = 0 ∨ (0 : Int32) = 1 := Or.inl rfl
      exact W.zret (v := (0 : Int32)) hx hb hr (zb_n hz) (fun t ht hW => ⟨⟨(0 : Int32), S, rfl, ⟨hf.symm, hz⟩, by rw [ht]; exact hP, va_K.moved hW.alike hK⟩, hS.F ht⟩) hS.2.2 d_Board_doorAccepts_64
  · rw [if_neg c4] at hf
    refine lv_lload hx hb d_Board_doorAccepts_26 (lv_at hl 0 rfl) ?_
    refine lv_lload_n hx hb d_Board_doorAccepts_28 rfl (lv_at hl 1 rfl) ?_
    refine lv_lor hx hb d_Board_doorAccepts_29 ?_
    refine lv_lstore (lv' := [(5, .long ((S.2 (18 + a2.toNatClampNeg) a1.toNatClampNeg) ||| (S.2 7 a2.toNatClampNeg))), (3, .long (S.2 7 a2.toNatClampNeg)), (0, .ref (ad 2)), (1, .int a1), (2, .int a2)]) hx hb d_Board_doorAccepts_30 hl (by decide) rfl (fun ls hl => ?_)
    refine lv_aload_n hx hb d_Board_doorAccepts_32 rfl (lv_at hl 2 rfl) ?_
    refine lv_lload hx hb d_Board_doorAccepts_33 (lv_at hl 0 rfl) ?_
    refine va_calli (va_runV (As := [.long ((S.2 (18 + a2.toNatClampNeg) a1.toNatClampNeg) ||| (S.2 7 a2.toNatClampNeg))]) (rest := []) ⟨hx, hb, hml, hown, ht⟩ (c_Board_isAboveTop l D cA ad hI H.size ((S.2 (18 + a2.toNatClampNeg) a1.toNatClampNeg) ||| (S.2 7 a2.toNatClampNeg)) S (fun hn => hs (by rw [hn] at hf; exact hf.symm))) (cwV 1 ht (good_G (gV mM_Board_71 mI_Board_isAboveTop mV_Board_isAboveTop mN_Board mk_Board_isAboveTop)) rfl rfl rfl (by decide +kernel) ⟨Nat.le_of_ble_eq_true rfl, Nat.le_of_ble_eq_true rfl⟩) ⟨fun a U g mk q => ⟨q.1, q.2.1, q.2.2.1, va_K.moved (u := U) (U := U.calling g mk a) (Vm.Alike.refl U.vm) q.2.2.2⟩, va_recv hK hP (ci := 2) (q0 := 2) rfl Xa_2, fun U hU hW => ⟨rfl, by rw [hU], by rw [hU]; exact hP, va_K.moved hW.alike hK⟩⟩ rfl rfl hl.1 rfl (lv_room (Nat.le_of_ble_eq_true rfl)) d_Board_doorAccepts_35 ⟨Nat.le_of_ble_eq_true rfl, Nat.le_of_ble_eq_true rfl⟩) hS (fun q _ h => hAS _ hS.1 q h) (fun q h => hAS _ hS.1 q h) (fun r3 _ t H locs ht9 hvm hw hB hz1 hk1 hS => ?_)
    obtain ⟨hP, hK9⟩ := hB
    rw [ht9] at hP
    obtain ⟨hw, hz3⟩ := hw
    rw [hw, Option.bind_some] at hf
    refine lv_if_ne (tgt := 52) hx hb d_Board_doorAccepts_38 (by decide) (fun c7 => ?_) (fun c7 => ?_)
    · rw [if_neg c7] at hf
      refine lv_iconst (v := 0) hx hb d_Board_doorAccepts_52 (by decide) ?_
      rw [← hQ]
      have hz : (0 : Int32) = 0 ∨ (0 : Int32) = 1 := Or.inl rfl
      exact W.zret (v := (0 : Int32)) hx hb hr (zb_n hz) (fun t ht hW => ⟨⟨(0 : Int32), S, rfl, ⟨hf.symm, hz⟩, by rw [ht]; exact hP, va_K.moved hW.alike hK⟩, hS.F ht⟩) hS.2.2 d_Board_doorAccepts_53
    · rw [if_pos c7] at hf
      refine lv_aload_n hx hb d_Board_doorAccepts_41 rfl (lv_at hl 2 rfl) ?_
      refine lv_lload hx hb d_Board_doorAccepts_42 (lv_at hl 0 rfl) ?_
      refine lv_iload_n hx hb d_Board_doorAccepts_44 rfl (lv_at hl 3 rfl) ?_
      refine lv_iload_n hx hb d_Board_doorAccepts_45 rfl (lv_at hl 4 rfl) ?_
      refine va_calli (va_runV (As := [.long ((S.2 (18 + a2.toNatClampNeg) a1.toNatClampNeg) ||| (S.2 7 a2.toNatClampNeg)), .int a1, .int a2]) (rest := []) ⟨hx, hb, hml, hown, ht⟩ (c_Board_strangerFits l D cA ad hI H.size ((S.2 (18 + a2.toNatClampNeg) a1.toNatClampNeg) ||| (S.2 7 a2.toNatClampNeg)) a1 a2 S (fun hn => hs (by rw [hn] at hf; exact hf.symm))) (cwV 3 ht (good_G (gV mM_Board_75 mI_Board_strangerFits mV_Board_strangerFits mN_Board mk_Board_strangerFits)) rfl rfl rfl (by decide +kernel) ⟨Nat.le_of_ble_eq_true rfl, Nat.le_of_ble_eq_true rfl⟩) ⟨fun a U g mk q => ⟨q.1, q.2.1, q.2.2.1, va_K.moved (u := U) (U := U.calling g mk a) (Vm.Alike.refl U.vm) q.2.2.2⟩, va_recv hK hP (ci := 2) (q0 := 2) rfl Xa_2, fun U hU hW => ⟨rfl, by rw [hU], by rw [hU]; exact hP, va_K.moved hW.alike hK⟩⟩ rfl rfl hl.1 rfl (lv_room (Nat.le_of_ble_eq_true rfl)) d_Board_doorAccepts_46 ⟨Nat.le_of_ble_eq_true rfl, Nat.le_of_ble_eq_true rfl⟩) hS (fun q _ h => hAS _ hS.1 q h) (fun q h => hAS _ hS.1 q h) (fun r4 _ t H locs ht9 hvm hw hB hz1 hk1 hS => ?_)
      obtain ⟨hP, hK9⟩ := hB
      rw [ht9] at hP
      obtain ⟨hw, hz4⟩ := hw
      rw [hw, Option.bind_some] at hf
      refine lv_if_eq (tgt := 65) hx hb d_Board_doorAccepts_49 (by decide) (fun c8 => ?_) (fun c8 => ?_)
      · rw [if_pos c8] at hf
        refine lv_aload_n hx hb d_Board_doorAccepts_65 rfl (lv_at hl 2 rfl) ?_
        refine va_get (D := D) (ci := 2) (v := .ref (ad 8)) (C := R_Board) (T := T_Board) (N := 7) hx hb ht i_Board hown hK hP 2 Xa_2 rfl 6 (by decide) (ht _ mF_Board_26) (fun _ h9 => h9) rfl d_Board_doorAccepts_66 ?_
        refine lv_iload_n hx hb d_Board_doorAccepts_69 rfl (lv_at hl 4 rfl) ?_
        refine lv_iconst (v := 1) hx hb d_Board_doorAccepts_70 (by decide) ?_
        refine lv_iadd hx hb d_Board_doorAccepts_71 ?_
        by_cases b9 : oob (a2 + (1 : Int32)) 9
        · rw [if_pos b9] at hf; exact absurd hf.symm hs
        rw [if_neg b9] at hf
        refine gz_aald hx hb hK hP 8 3 Xa_8 rfl b9 d_Board_doorAccepts_72 ?_
        rw [X_row b9]
        refine lv_iload_n hx hb d_Board_doorAccepts_73 rfl (lv_at hl 3 rfl) ?_
        refine lv_lload hx hb d_Board_doorAccepts_74 (lv_at hl 0 rfl) ?_
        refine va_last hx hb hK hP (X_D hI hAd) hS (18 + (a2 + (1 : Int32)).toNatClampNeg) 1 (X_rowat8 b9) rfl b3 d_Board_doorAccepts_76 (fun H locs hP _ hS => ?_)
        replace hP := X_stL (X_rowlt8 b9) (X_rowcell8 b9) hP
        refine lv_iconst (v := 1) hx hb d_Board_doorAccepts_77 (by decide) ?_
        rw [← hQ]
        have hz : (1 : Int32) = 0 ∨ (1 : Int32) = 1 := Or.inr rfl
        exact W.zret (v := (1 : Int32)) hx hb hr (zb_n hz) (fun t ht hW => ⟨⟨(1 : Int32), wL S (18 + (a2 + (1 : Int32)).toNatClampNeg) a1.toNatClampNeg ((S.2 (18 + a2.toNatClampNeg) a1.toNatClampNeg) ||| (S.2 7 a2.toNatClampNeg)), rfl, ⟨hf.symm, hz⟩, by rw [ht]; exact hP, va_K.moved hW.alike hK⟩, hS.F ht⟩) hS.2.2 d_Board_doorAccepts_78
      · rw [if_neg c8] at hf
        refine lv_iconst (v := 0) hx hb d_Board_doorAccepts_52 (by decide) ?_
        rw [← hQ]
        have hz : (0 : Int32) = 0 ∨ (0 : Int32) = 1 := Or.inl rfl
        exact W.zret (v := (0 : Int32)) hx hb hr (zb_n hz) (fun t ht hW => ⟨⟨(0 : Int32), S, rfl, ⟨hf.symm, hz⟩, by rw [ht]; exact hP, va_K.moved hW.alike hK⟩, hS.F ht⟩) hS.2.2 d_Board_doorAccepts_53
set_option maxHeartbeats 4000000 in
set_option maxRecDepth 100000 in
theorem c_Board_accepts (l : Launch) (D : va_G) (cA : Nat → ClassId) (ad : Nat → Nat) (hI : InjA ad) (sz : Nat) (a1 : Int32) (S : SS) (hs : f_Board_accepts a1 S ≠ none) : Met l y_Board_accepts w_Board_accepts ({ frames := 3, cells := 0, slots := 0, locals := 74 }) (va_Pc [.ref (ad 2), .int a1] (fun U => U.heap.size = sz ∧ va_P D vwCl (X cA ad S) U.heap ∧ va_K D vwCl (tysX cA) U)) (va_Qi (fun (r : Int32) (u : SS) => f_Board_accepts a1 S = some (r, u) ∧ (r = 0 ∨ r = 1)) (fun (u : SS) t => va_P D vwCl (X cA ad u) t.heap ∧ va_K D vwCl (tysX cA) t) (AS ad sz)) 0 0 (AS ad sz) := by
  refine Met.ofW (cc := b_Board_accepts) (maxL := 5) (ret := (some .boolean)) (by decide) rfl ?_
  intro p e s m args below meth c s₁ B hml hv
  obtain ⟨rfl, hsz, hP, hK⟩ := hv
  have hx := B.exec
  have hb := B.bytes
  have hr := B.returns
  have hts := atoms_spec (ws := w_Board_accepts) B.pre
  have ht := fun w h => hts w (List.mem_cons_of_mem _ h)
  have hown : s.vm.findClass R_Board = some m.cls := findClass_of_methodNamed B.named
  have hlocks := B.notSynchronized
  subst hsz
  have hAd : ∀ q, q < NP → AS ad s.heap.size (ad q) := fun q h => Or.inl ⟨q, h, rfl⟩
  have hA : ∀ q : Nat, s.heap.size ≤ q → AS ad s.heap.size q := fun q h => Or.inr h
  have hAS : ∀ z : Nat, s.heap.size ≤ z → ∀ q : Nat, AS ad z q → AS ad s.heap.size q := fun z h q hq => hq.elim Or.inl (fun g => Or.inr (Nat.le_trans h g))
  generalize hAe : AS ad s.heap.size = A at hAd hA hAS ⊢
  have hS : va_S A s.heap s.heap [] := va_S.rf
  have hl := lv_entry ([.ref (ad 2), .int a1]) (n := 5) (Nat.le_of_ble_eq_true rfl)
  rw [lg_entry_eq]
  generalize (lg_sl ([.ref (ad 2), .int a1]) ++ List.replicate (5 - (lg_sl ([.ref (ad 2), .int a1])).length) Slot.unset).toArray = ls at hl ⊢
  have hl : lv_has ls 5 [(0, .ref (ad 2)), (1, .int a1)] := hl
  have hf := (f_Board_accepts_s a1 S).symm
  generalize hQ : MQ below _ _ s _ _ _ = Q
  refine lv_aload_n hx hb d_Board_accepts_0 rfl (lv_at hl 0 rfl) ?_
  refine lv_iload_n hx hb d_Board_accepts_1 rfl (lv_at hl 1 rfl) ?_
  refine va_calll (va_runV (As := [.int a1]) (rest := []) ⟨hx, hb, hml, hown, ht⟩ (c_Board_rowFromCuts l D cA ad hI s.heap.size a1 S (fun hn => hs (by rw [hn] at hf; exact hf.symm))) (cwV 1 ht (good_G (gV mM_Board_56 mI_Board_rowFromCuts mV_Board_rowFromCuts mN_Board mk_Board_rowFromCuts)) rfl rfl rfl (by decide +kernel) ⟨Nat.le_of_ble_eq_true rfl, Nat.le_of_ble_eq_true rfl⟩) ⟨fun a U g mk q => ⟨q.1, q.2.1, q.2.2.1, va_K.moved (u := U) (U := U.calling g mk a) (Vm.Alike.refl U.vm) q.2.2.2⟩, va_recv hK hP (ci := 2) (q0 := 2) rfl Xa_2, fun U hU hW => ⟨rfl, by rw [hU], by rw [hU]; exact hP, va_K.moved hW.alike hK⟩⟩ rfl rfl hl.1 rfl (lv_room (Nat.le_of_ble_eq_true rfl)) d_Board_accepts_2 ⟨Nat.le_of_ble_eq_true rfl, Nat.le_of_ble_eq_true rfl⟩) hS (fun q _ h => hAS _ hS.1 q h) (fun q h => hAS _ hS.1 q h) (fun r1 _ t H locs ht9 hvm hw hB hz1 hk1 hS => ?_)
  obtain ⟨hP, hK9⟩ := hB
  rw [ht9] at hP
  rw [hw, Option.bind_some] at hf
  refine lv_lstore_n (lv' := [(2, .long r1), (0, .ref (ad 2)), (1, .int a1)]) hx hb d_Board_accepts_5 rfl hl (by decide) rfl (fun ls hl => ?_)
  refine lv_aload_n hx hb d_Board_accepts_6 rfl (lv_at hl 1 rfl) ?_
  refine lv_lload_n hx hb d_Board_accepts_7 rfl (lv_at hl 0 rfl) ?_
  refine lv_iload_n hx hb d_Board_accepts_8 rfl (lv_at hl 2 rfl) ?_
  refine va_calli (va_runV (As := [.long r1, .int a1]) (rest := []) ⟨hx, hb, hml, hown, ht⟩ (c_Board_isTaken l D cA ad hI H.size r1 a1 S (fun hn => hs (by rw [hn] at hf; exact hf.symm))) (cwV 2 ht (good_G (gV mM_Board_60 mI_Board_isTaken mV_Board_isTaken mN_Board mk_Board_isTaken)) rfl rfl rfl (by decide +kernel) ⟨Nat.le_of_ble_eq_true rfl, Nat.le_of_ble_eq_true rfl⟩) ⟨fun a U g mk q => ⟨q.1, q.2.1, q.2.2.1, va_K.moved (u := U) (U := U.calling g mk a) (Vm.Alike.refl U.vm) q.2.2.2⟩, va_recv hK hP (ci := 2) (q0 := 2) rfl Xa_2, fun U hU hW => ⟨rfl, by rw [hU], by rw [hU]; exact hP, va_K.moved hW.alike hK⟩⟩ rfl rfl hl.1 rfl (lv_room (Nat.le_of_ble_eq_true rfl)) d_Board_accepts_9 ⟨Nat.le_of_ble_eq_true rfl, Nat.le_of_ble_eq_true rfl⟩) hS (fun q _ h => hAS _ hS.1 q h) (fun q h => hAS _ hS.1 q h) (fun r2 _ t H locs ht9 hvm hw hB hz1 hk1 hS => ?_)
  obtain ⟨hP, hK9⟩ := hB
  rw [ht9] at hP
  obtain ⟨hw, hz2⟩ := hw
  rw [hw, Option.bind_some] at hf
  refine lv_if_eq (tgt := 17) hx hb d_Board_accepts_12 (by decide) (fun c1 => ?_) (fun c1 => ?_)
  · rw [if_pos c1] at hf
    refine lv_aload_n hx hb d_Board_accepts_17 rfl (lv_at hl 1 rfl) ?_
    refine va_get (D := D) (ci := 2) (v := .ref (ad 7)) (C := R_Board) (T := T_Board) (N := 7) hx hb ht i_Board hown hK hP 2 Xa_2 rfl 5 (by decide) (ht _ mF_Board_20) (fun _ h9 => h9) rfl d_Board_accepts_18 ?_
    refine lv_iload_n hx hb d_Board_accepts_21 rfl (lv_at hl 2 rfl) ?_
    refine lv_lload_n hx hb d_Board_accepts_22 rfl (lv_at hl 0 rfl) ?_
    by_cases b2 : oob a1 8
    · rw [if_pos b2] at hf; exact absurd hf.symm hs
    rw [if_neg b2] at hf
    refine va_last hx hb hK hP (X_D hI hAd) hS 7 1 Xa_7 rfl b2 d_Board_accepts_23 (fun H locs hP _ hS => ?_)
    replace hP := X_stL (by decide) Xc_7 hP
    refine lv_iconst (v := 0) hx hb d_Board_accepts_24 (by decide) ?_
    refine lv_istore (lv' := [(4, .int (0 : Int32)), (2, .long r1), (0, .ref (ad 2)), (1, .int a1)]) hx hb d_Board_accepts_25 hl (by decide) rfl (fun ls hl => ?_)
    have lp27_1 : ∀ (n : Nat) (x4_1 : Int32) (Sx : SS) (H : Heap) (locs : List Loc) (ls : Array Slot), va_P D vwCl (X cA ad Sx) H → va_S A s.heap H locs → lv_has ls 5 [(0, .ref (ad 2)), (1, .int a1), (4, .int x4_1)] → f_Board_accepts_L27 a1 n x4_1 Sx ≠ none →
        (∀ o : Int32 × SS, f_Board_accepts_L27 a1 n x4_1 Sx = some (.inl o) → f_Board_accepts a1 S = some o) →
        (∀ v : SS, f_Board_accepts_L27 a1 n x4_1 Sx = some (.inr v) → ∀ (H : Heap) (locs : List Loc) (ls : Array Slot), va_P D vwCl (X cA ad v) H → va_S A s.heap H locs → lv_has ls 5 [(0, .ref (ad 2)), (1, .int a1)] → W p l e (headSpec w_Board_accepts ({ frames := 3, cells := 0, slots := 0, locals := 74 })).room s m ([.ref (ad 2), .int a1] : List Value).toArray below meth c H locs 0 0 Q (F0 m 54 ls [])) →
        W p l e (headSpec w_Board_accepts ({ frames := 3, cells := 0, slots := 0, locals := 74 })).room s m ([.ref (ad 2), .int a1] : List Value).toArray below meth c H locs 0 0 Q (F0 m 27 ls []) := by
      intro n
      induction n with
      | zero => intro x4_1 Sx H locs ls hP hS hl hs; exact absurd rfl hs
      | succ n ih =>
        intro x4_1 Sx H locs ls hP hS hl hs hret hexit
        have hf := (f_Board_accepts_L27_s a1 n x4_1 Sx).symm
        refine lv_iload hx hb d_Board_accepts_27 (lv_at hl 2 rfl) ?_
        refine lv_aload_n hx hb d_Board_accepts_29 rfl (lv_at hl 0 rfl) ?_
        refine va_get (D := D) (ci := 2) (v := .int (Sx.1 2 2)) (C := R_Board) (T := T_Board) (N := 7) hx hb ht i_Board hown hK hP 2 Xa_2 rfl 2 (by decide) (ht _ mF_Board_33) (fun _ h9 => h9) rfl d_Board_accepts_30 ?_
        refine lv_icmp_ge (tgt := 54) hx hb d_Board_accepts_33 (by decide) (fun c3 => ?_) (fun c3 => ?_)
        · rw [if_pos c3] at hf
          exact hexit _ hf.symm _ _ _ hP hS (lv_sub hl [0, 1] rfl)
        · rw [if_neg c3] at hf
          refine lv_aload_n hx hb d_Board_accepts_36 rfl (lv_at hl 0 rfl) ?_
          refine lv_iload hx hb d_Board_accepts_37 (lv_at hl 2 rfl) ?_
          refine lv_iload_n hx hb d_Board_accepts_39 rfl (lv_at hl 1 rfl) ?_
          refine va_calli (va_runV (As := [.int x4_1, .int a1]) (rest := []) ⟨hx, hb, hml, hown, ht⟩ (c_Board_doorAccepts l D cA ad hI H.size x4_1 a1 Sx (fun hn => hs (by rw [hn] at hf; exact hf.symm))) (cwV 2 ht (good_G (gV mM_Board_64 mI_Board_doorAccepts mV_Board_doorAccepts mN_Board mk_Board_doorAccepts)) rfl rfl rfl (by decide +kernel) ⟨Nat.le_of_ble_eq_true rfl, Nat.le_of_ble_eq_true rfl⟩) ⟨fun a U g mk q => ⟨q.1, q.2.1, q.2.2.1, va_K.moved (u := U) (U := U.calling g mk a) (Vm.Alike.refl U.vm) q.2.2.2⟩, va_recv hK hP (ci := 2) (q0 := 2) rfl Xa_2, fun U hU hW => ⟨rfl, by rw [hU], by rw [hU]; exact hP, va_K.moved hW.alike hK⟩⟩ rfl rfl hl.1 rfl (lv_room (Nat.le_of_ble_eq_true rfl)) d_Board_accepts_40 ⟨Nat.le_of_ble_eq_true rfl, Nat.le_of_ble_eq_true rfl⟩) hS (fun q _ h => hAS _ hS.1 q h) (fun q h => hAS _ hS.1 q h) (fun r3 u3 t H locs ht9 hvm hw hB hz1 hk1 hS => ?_)
          obtain ⟨hP, hK9⟩ := hB
          rw [ht9] at hP
          obtain ⟨hw, hz3⟩ := hw
          rw [hw, Option.bind_some] at hf
          dsimp only at hf
          refine lv_if_ne (tgt := 48) hx hb d_Board_accepts_43 (by decide) (fun c4 => ?_) (fun c4 => ?_)
          · rw [if_neg c4] at hf
            refine lv_iinc (v := x4_1 + 1) (lv' := [(4, .int (x4_1 + 1)), (0, .ref (ad 2)), (1, .int a1)]) hx hb d_Board_accepts_48 hl (k := 2) rfl rfl (by decide) rfl (fun ls hl => ?_)
            refine lv_goto (tgt := 27) hx hb d_Board_accepts_51 (by decide) ?_
            exact ih (x4_1 + 1) u3 _ _ _ hP hS (lv_sub hl [1, 2, 0] rfl) (fun hn => hs (hf.symm.trans hn)) (fun o ho => hret o (hf.symm.trans ho)) (fun v ho => hexit v (hf.symm.trans ho))
          · rw [if_pos c4] at hf
            refine lv_iconst (v := 0) hx hb d_Board_accepts_46 (by decide) ?_
            rw [← hQ]
            have hz : (0 : Int32) = 0 ∨ (0 : Int32) = 1 := Or.inl rfl
            exact W.zret (v := (0 : Int32)) hx hb hr (zb_n hz) (fun t ht hW => ⟨⟨(0 : Int32), u3, rfl, ⟨hret _ hf.symm, hz⟩, by rw [ht]; exact hP, va_K.moved hW.alike hK⟩, hS.F ht⟩) hS.2.2 d_Board_accepts_47
    refine lp27_1 FU (0 : Int32) (wL S 7 a1.toNatClampNeg r1) _ _ _ hP hS (lv_sub hl [2, 3, 0] rfl) (fun hn => ?_) (fun o ho => ?_) (fun v5 hvv5 H locs ls hP hS hl => ?_)
    · rw [hn] at hf; exact hs hf.symm
    · rw [ho, Option.bind_some, Sum.elim_inl] at hf; exact hf.symm
    · rw [hvv5, Option.bind_some, Sum.elim_inr] at hf
      refine lv_iconst (v := 1) hx hb d_Board_accepts_54 (by decide) ?_
      rw [← hQ]
      have hz : (1 : Int32) = 0 ∨ (1 : Int32) = 1 := Or.inr rfl
      exact W.zret (v := (1 : Int32)) hx hb hr (zb_n hz) (fun t ht hW => ⟨⟨(1 : Int32), v5, rfl, ⟨hf.symm, hz⟩, by rw [ht]; exact hP, va_K.moved hW.alike hK⟩, hS.F ht⟩) hS.2.2 d_Board_accepts_55
  · rw [if_neg c1] at hf
    refine lv_iconst (v := 0) hx hb d_Board_accepts_15 (by decide) ?_
    rw [← hQ]
    have hz : (0 : Int32) = 0 ∨ (0 : Int32) = 1 := Or.inl rfl
    exact W.zret (v := (0 : Int32)) hx hb hr (zb_n hz) (fun t ht hW => ⟨⟨(0 : Int32), S, rfl, ⟨hf.symm, hz⟩, by rw [ht]; exact hP, va_K.moved hW.alike hK⟩, hS.F ht⟩) hS.2.2 d_Board_accepts_16
set_option maxHeartbeats 4000000 in
set_option maxRecDepth 100000 in
theorem c_Board_doorsHolding (l : Launch) (D : va_G) (cA : Nat → ClassId) (ad : Nat → Nat) (hI : InjA ad) (sz : Nat) (a1 : Int32) (a2 : Int32) (S : SS) (hs : f_Board_doorsHolding a1 a2 S ≠ none) : Met l y_Board_doorsHolding w_Board_doorsHolding ({ frames := 2, cells := 0, slots := 0, locals := 47 }) (va_Pc [.ref (ad 2), .int a1, .int a2] (fun U => U.heap.size = sz ∧ va_P D vwCl (X cA ad S) U.heap ∧ va_K D vwCl (tysX cA) U)) (va_Qi (fun (r : Int32) (_ : Unit) => f_Board_doorsHolding a1 a2 S = some r) (fun (_ : Unit) t => va_P D vwCl (X cA ad S) t.heap ∧ va_K D vwCl (tysX cA) t) (AS ad sz)) 0 0 (AS ad sz) := by
  refine Met.ofW (cc := b_Board_doorsHolding) (maxL := 3) (ret := (some .int)) (by decide) rfl ?_
  intro p e s m args below meth c s₁ B hml hv
  obtain ⟨rfl, hsz, hP, hK⟩ := hv
  have hx := B.exec
  have hb := B.bytes
  have hr := B.returns
  have hts := atoms_spec (ws := w_Board_doorsHolding) B.pre
  have ht := fun w h => hts w (List.mem_cons_of_mem _ h)
  have hown : s.vm.findClass R_Board = some m.cls := findClass_of_methodNamed B.named
  have hlocks := B.notSynchronized
  subst hsz
  have hAd : ∀ q, q < NP → AS ad s.heap.size (ad q) := fun q h => Or.inl ⟨q, h, rfl⟩
  have hA : ∀ q : Nat, s.heap.size ≤ q → AS ad s.heap.size q := fun q h => Or.inr h
  have hAS : ∀ z : Nat, s.heap.size ≤ z → ∀ q : Nat, AS ad z q → AS ad s.heap.size q := fun z h q hq => hq.elim Or.inl (fun g => Or.inr (Nat.le_trans h g))
  generalize hAe : AS ad s.heap.size = A at hAd hA hAS ⊢
  have hS : va_S A s.heap s.heap [] := va_S.rf
  have hl := lv_entry ([.ref (ad 2), .int a1, .int a2]) (n := 3) (Nat.le_of_ble_eq_true rfl)
  rw [lg_entry_eq]
  generalize (lg_sl ([.ref (ad 2), .int a1, .int a2]) ++ List.replicate (3 - (lg_sl ([.ref (ad 2), .int a1, .int a2])).length) Slot.unset).toArray = ls at hl ⊢
  have hl : lv_has ls 3 [(0, .ref (ad 2)), (1, .int a1), (2, .int a2)] := hl
  have hf := (f_Board_doorsHolding_s a1 a2 S).symm
  generalize hQ : MQ below _ _ s _ _ _ = Q
  refine lv_aload_n hx hb d_Board_doorsHolding_0 rfl (lv_at hl 0 rfl) ?_
  refine lv_iload_n hx hb d_Board_doorsHolding_1 rfl (lv_at hl 1 rfl) ?_
  refine lv_iload_n hx hb d_Board_doorsHolding_2 rfl (lv_at hl 2 rfl) ?_
  refine va_calll (va_runS (As := [.int a1, .int a2]) (rest := [.ref (ad 2)]) ⟨hx, hb, hml, hown, ht⟩ (c_Board_bit l D cA ad hI s.heap.size a1 a2 S (fun hn => hs (by rw [hn] at hf; exact hf.symm))) (va_cwS 2 ht (good_G (gS mM_Board_37 mS_Board_bit mN_Board mk_Board_bit)) rfl rfl rfl (by decide +kernel) ⟨Nat.le_of_ble_eq_true rfl, Nat.le_of_ble_eq_true rfl⟩) ⟨fun a U g mk q => ⟨q.1, q.2.1, q.2.2.1, va_K.moved (u := U) (U := U.calling g mk a) (Vm.Alike.refl U.vm) q.2.2.2⟩, fun U hU hW => ⟨rfl, by rw [hU], by rw [hU]; exact hP, va_K.moved hW.alike hK⟩⟩ rfl rfl hl.1 rfl (lv_room (Nat.le_of_ble_eq_true rfl)) d_Board_doorsHolding_3 ⟨Nat.le_of_ble_eq_true rfl, Nat.le_of_ble_eq_true rfl⟩) hS (fun q _ h => hAS _ hS.1 q h) (fun q h => hAS _ hS.1 q h) (fun r1 _ t H locs ht9 hvm hw hB hz1 hk1 hS => ?_)
  obtain ⟨hP, hK9⟩ := hB
  rw [ht9] at hP
  rw [hw, Option.bind_some] at hf
  refine va_calli (va_runV (As := [.long r1]) (rest := []) ⟨hx, hb, hml, hown, ht⟩ (c_Board_doorsFitted l D cA ad hI H.size r1 S (fun hn => hs (by rw [hn] at hf; exact hf.symm))) (cwV 1 ht (good_G (gV mM_Board_41 mI_Board_doorsFitted mV_Board_doorsFitted mN_Board mk_Board_doorsFitted)) rfl rfl rfl (by decide +kernel) ⟨Nat.le_of_ble_eq_true rfl, Nat.le_of_ble_eq_true rfl⟩) ⟨fun a U g mk q => ⟨q.1, q.2.1, q.2.2.1, va_K.moved (u := U) (U := U.calling g mk a) (Vm.Alike.refl U.vm) q.2.2.2⟩, va_recv hK hP (ci := 2) (q0 := 2) rfl Xa_2, fun U hU hW => ⟨rfl, by rw [hU], by rw [hU]; exact hP, va_K.moved hW.alike hK⟩⟩ rfl rfl hl.1 rfl (lv_room (Nat.le_of_ble_eq_true rfl)) d_Board_doorsHolding_6 ⟨Nat.le_of_ble_eq_true rfl, Nat.le_of_ble_eq_true rfl⟩) hS (fun q _ h => hAS _ hS.1 q h) (fun q h => hAS _ hS.1 q h) (fun r2 _ t H locs ht9 hvm hw hB hz1 hk1 hS => ?_)
  obtain ⟨hP, hK9⟩ := hB
  rw [ht9] at hP
  rw [hw, Option.bind_some] at hf
  rw [← hQ]
  exact W.iret (v := r2) hx hb hr (fun t ht hW => ⟨⟨r2, (), rfl, hf.symm, by rw [ht]; exact hP, va_K.moved hW.alike hK⟩, hS.F ht⟩) hS.2.2 d_Board_doorsHolding_9
set_option maxHeartbeats 4000000 in
set_option maxRecDepth 100000 in
theorem c_Board_countKeys (l : Launch) (D : va_G) (cA : Nat → ClassId) (ad : Nat → Nat) (hI : InjA ad) (sz : Nat) (a1 : Int64) (a3 : Int32) (S : SS) (hs : f_Board_countKeys a1 a3 S ≠ none) : Met l y_Board_countKeys w_Board_countKeys ({ frames := 3, cells := 0, slots := 0, locals := 68 }) (va_Pc [.ref (ad 2), .long a1, .int a3] (fun U => U.heap.size = sz ∧ va_P D vwCl (X cA ad S) U.heap ∧ va_K D vwCl (tysX cA) U)) (va_Qi (fun (r : Int32) (_ : Unit) => f_Board_countKeys a1 a3 S = some r) (fun (_ : Unit) t => va_P D vwCl (X cA ad S) t.heap ∧ va_K D vwCl (tysX cA) t) (AS ad sz)) 0 0 (AS ad sz) := by
  refine Met.ofW (cc := b_Board_countKeys) (maxL := 6) (ret := (some .int)) (by decide) rfl ?_
  intro p e s m args below meth c s₁ B hml hv
  obtain ⟨rfl, hsz, hP, hK⟩ := hv
  have hx := B.exec
  have hb := B.bytes
  have hr := B.returns
  have hts := atoms_spec (ws := w_Board_countKeys) B.pre
  have ht := fun w h => hts w (List.mem_cons_of_mem _ h)
  have hown : s.vm.findClass R_Board = some m.cls := findClass_of_methodNamed B.named
  have hlocks := B.notSynchronized
  subst hsz
  have hAd : ∀ q, q < NP → AS ad s.heap.size (ad q) := fun q h => Or.inl ⟨q, h, rfl⟩
  have hA : ∀ q : Nat, s.heap.size ≤ q → AS ad s.heap.size q := fun q h => Or.inr h
  have hAS : ∀ z : Nat, s.heap.size ≤ z → ∀ q : Nat, AS ad z q → AS ad s.heap.size q := fun z h q hq => hq.elim Or.inl (fun g => Or.inr (Nat.le_trans h g))
  generalize hAe : AS ad s.heap.size = A at hAd hA hAS ⊢
  have hS : va_S A s.heap s.heap [] := va_S.rf
  have hl := lv_entry ([.ref (ad 2), .long a1, .int a3]) (n := 6) (Nat.le_of_ble_eq_true rfl)
  rw [lg_entry_eq]
  generalize (lg_sl ([.ref (ad 2), .long a1, .int a3]) ++ List.replicate (6 - (lg_sl ([.ref (ad 2), .long a1, .int a3])).length) Slot.unset).toArray = ls at hl ⊢
  have hl : lv_has ls 6 [(0, .ref (ad 2)), (1, .long a1), (3, .int a3)] := hl
  have hf := (f_Board_countKeys_s a1 a3 S).symm
  generalize hQ : MQ below _ _ s _ _ _ = Q
  refine lv_iconst (v := 0) hx hb d_Board_countKeys_0 (by decide) ?_
  refine lv_istore (lv' := [(4, .int (0 : Int32)), (0, .ref (ad 2)), (1, .long a1), (3, .int a3)]) hx hb d_Board_countKeys_1 hl (by decide) rfl (fun ls hl => ?_)
  refine lv_iconst (v := 0) hx hb d_Board_countKeys_3 (by decide) ?_
  refine lv_istore (lv' := [(5, .int (0 : Int32)), (4, .int (0 : Int32)), (0, .ref (ad 2)), (1, .long a1), (3, .int a3)]) hx hb d_Board_countKeys_4 hl (by decide) rfl (fun ls hl => ?_)
  have lp6_1 : ∀ (n : Nat) (x4_1 : Int32) (x5_1 : Int32) (H : Heap) (locs : List Loc) (ls : Array Slot), va_P D vwCl (X cA ad S) H → va_S A s.heap H locs → lv_has ls 6 [(0, .ref (ad 2)), (1, .long a1), (3, .int a3), (4, .int x4_1), (5, .int x5_1)] → f_Board_countKeys_L6 a1 a3 n x4_1 x5_1 S ≠ none →
      (∀ v : Int32, f_Board_countKeys_L6 a1 a3 n x4_1 x5_1 S = some v → ∀ (H : Heap) (locs : List Loc) (ls : Array Slot), va_P D vwCl (X cA ad S) H → va_S A s.heap H locs → lv_has ls 6 [(0, .ref (ad 2)), (1, .long a1), (3, .int a3), (4, .int v)] → W p l e (headSpec w_Board_countKeys ({ frames := 3, cells := 0, slots := 0, locals := 68 })).room s m ([.ref (ad 2), .long a1, .int a3] : List Value).toArray below meth c H locs 0 0 Q (F0 m 48 ls [])) →
      W p l e (headSpec w_Board_countKeys ({ frames := 3, cells := 0, slots := 0, locals := 68 })).room s m ([.ref (ad 2), .long a1, .int a3] : List Value).toArray below meth c H locs 0 0 Q (F0 m 6 ls []) := by
    intro n
    induction n with
    | zero => intro x4_1 x5_1 H locs ls hP hS hl hs; exact absurd rfl hs
    | succ n ih =>
      intro x4_1 x5_1 H locs ls hP hS hl hs hexit
      have hf := (f_Board_countKeys_L6_s a1 a3 n x4_1 x5_1 S).symm
      refine lv_iload hx hb d_Board_countKeys_6 (lv_at hl 4 rfl) ?_
      refine lv_aload_n hx hb d_Board_countKeys_8 rfl (lv_at hl 0 rfl) ?_
      refine va_get (D := D) (ci := 2) (v := .int (S.1 2 1)) (C := R_Board) (T := T_Board) (N := 7) hx hb ht i_Board hown hK hP 2 Xa_2 rfl 1 (by decide) (ht _ mF_Board_45) (fun _ h9 => h9) rfl d_Board_countKeys_9 ?_
      refine lv_icmp_ge (tgt := 48) hx hb d_Board_countKeys_12 (by decide) (fun c1 => ?_) (fun c1 => ?_)
      · rw [if_pos c1] at hf
        exact hexit _ hf.symm _ _ _ hP hS (lv_sub hl [0, 1, 2, 3] rfl)
      · rw [if_neg c1] at hf
        refine lv_lload_n hx hb d_Board_countKeys_15 rfl (lv_at hl 1 rfl) ?_
        refine lv_aload_n hx hb d_Board_countKeys_16 rfl (lv_at hl 0 rfl) ?_
        refine va_get (D := D) (ci := 2) (v := .ref (ad 7)) (C := R_Board) (T := T_Board) (N := 7) hx hb ht i_Board hown hK hP 2 Xa_2 rfl 5 (by decide) (ht _ mF_Board_20) (fun _ h9 => h9) rfl d_Board_countKeys_17 ?_
        refine lv_iload hx hb d_Board_countKeys_20 (lv_at hl 4 rfl) ?_
        by_cases b2 : oob x5_1 8
        · rw [if_pos b2] at hf; exact absurd hf.symm hs
        rw [if_neg b2] at hf
        refine va_lald (f := S.2 7) hx hb hK hP 7 1 Xa_7 rfl b2 d_Board_countKeys_22 ?_
        refine va_calli (va_runS (As := [.long a1, .long (S.2 7 x5_1.toNatClampNeg)]) (rest := []) ⟨hx, hb, hml, hown, ht⟩ (c_Board_isWithin l D cA ad hI H.size a1 (S.2 7 x5_1.toNatClampNeg) S (fun hn => hs (by rw [hn] at hf; exact hf.symm))) (va_cwS 2 ht (good_G (gS mM_Board_48 mS_Board_isWithin mN_Board mk_Board_isWithin)) rfl rfl rfl (by decide +kernel) ⟨Nat.le_of_ble_eq_true rfl, Nat.le_of_ble_eq_true rfl⟩) ⟨fun a U g mk q => ⟨q.1, q.2.1, q.2.2.1, va_K.moved (u := U) (U := U.calling g mk a) (Vm.Alike.refl U.vm) q.2.2.2⟩, fun U hU hW => ⟨rfl, by rw [hU], by rw [hU]; exact hP, va_K.moved hW.alike hK⟩⟩ rfl rfl hl.1 rfl (lv_room (Nat.le_of_ble_eq_true rfl)) d_Board_countKeys_23 ⟨Nat.le_of_ble_eq_true rfl, Nat.le_of_ble_eq_true rfl⟩) hS (fun q _ h => hAS _ hS.1 q h) (fun q h => hAS _ hS.1 q h) (fun r1 _ t H locs ht9 hvm hw hB hz1 hk1 hS => ?_)
        obtain ⟨hP, hK9⟩ := hB
        rw [ht9] at hP
        obtain ⟨hw, hz1⟩ := hw
        rw [hw, Option.bind_some] at hf
        refine lv_if_eq (tgt := 42) hx hb d_Board_countKeys_26 (by decide) (fun c3 => ?_) (fun c3 => ?_)
        · rw [if_pos c3] at hf
          refine lv_iinc (v := x5_1 + 1) (lv' := [(5, .int (x5_1 + 1)), (0, .ref (ad 2)), (1, .long a1), (3, .int a3), (4, .int x4_1)]) hx hb d_Board_countKeys_42 hl (k := 4) rfl rfl (by decide) rfl (fun ls hl => ?_)
          refine lv_goto (tgt := 6) hx hb d_Board_countKeys_45 (by decide) ?_
          exact ih x4_1 (x5_1 + 1) _ _ _ hP hS (lv_sub hl [1, 2, 3, 4, 0] rfl) (fun hn => hs (hf.symm.trans hn)) (fun v ho => hexit v (hf.symm.trans ho))
        · rw [if_neg c3] at hf
          refine lv_aload_n hx hb d_Board_countKeys_29 rfl (lv_at hl 0 rfl) ?_
          refine lv_iload hx hb d_Board_countKeys_30 (lv_at hl 4 rfl) ?_
          refine va_calli (va_runV (As := [.int x5_1]) (rest := []) ⟨hx, hb, hml, hown, ht⟩ (c_Board_doorsOf l D cA ad hI H.size x5_1 S (fun hn => hs (by rw [hn] at hf; exact hf.symm))) (cwV 1 ht (good_G (gV mM_Board_52 mI_Board_doorsOf mV_Board_doorsOf mN_Board mk_Board_doorsOf)) rfl rfl rfl (by decide +kernel) ⟨Nat.le_of_ble_eq_true rfl, Nat.le_of_ble_eq_true rfl⟩) ⟨fun a U g mk q => ⟨q.1, q.2.1, q.2.2.1, va_K.moved (u := U) (U := U.calling g mk a) (Vm.Alike.refl U.vm) q.2.2.2⟩, va_recv hK hP (ci := 2) (q0 := 2) rfl Xa_2, fun U hU hW => ⟨rfl, by rw [hU], by rw [hU]; exact hP, va_K.moved hW.alike hK⟩⟩ rfl rfl hl.1 rfl (lv_room (Nat.le_of_ble_eq_true rfl)) d_Board_countKeys_32 ⟨Nat.le_of_ble_eq_true rfl, Nat.le_of_ble_eq_true rfl⟩) hS (fun q _ h => hAS _ hS.1 q h) (fun q h => hAS _ hS.1 q h) (fun r2 _ t H locs ht9 hvm hw hB hz1 hk1 hS => ?_)
          obtain ⟨hP, hK9⟩ := hB
          rw [ht9] at hP
          rw [hw, Option.bind_some] at hf
          refine lv_iload_n hx hb d_Board_countKeys_35 rfl (lv_at hl 2 rfl) ?_
          refine lv_icmp_ne (tgt := 42) hx hb d_Board_countKeys_36 (by decide) (fun c4 => ?_) (fun c4 => ?_)
          · rw [if_neg c4] at hf
            refine lv_iinc (v := x5_1 + 1) (lv' := [(5, .int (x5_1 + 1)), (0, .ref (ad 2)), (1, .long a1), (3, .int a3), (4, .int x4_1)]) hx hb d_Board_countKeys_42 hl (k := 4) rfl rfl (by decide) rfl (fun ls hl => ?_)
            refine lv_goto (tgt := 6) hx hb d_Board_countKeys_45 (by decide) ?_
            exact ih x4_1 (x5_1 + 1) _ _ _ hP hS (lv_sub hl [1, 2, 3, 4, 0] rfl) (fun hn => hs (hf.symm.trans hn)) (fun v ho => hexit v (hf.symm.trans ho))
          · rw [if_pos c4] at hf
            refine lv_iinc (v := x4_1 + 1) (lv' := [(4, .int (x4_1 + 1)), (0, .ref (ad 2)), (1, .long a1), (3, .int a3), (5, .int x5_1)]) hx hb d_Board_countKeys_39 hl (k := 3) rfl rfl (by decide) rfl (fun ls hl => ?_)
            refine lv_iinc (v := x5_1 + 1) (lv' := [(5, .int (x5_1 + 1)), (4, .int (x4_1 + 1)), (0, .ref (ad 2)), (1, .long a1), (3, .int a3)]) hx hb d_Board_countKeys_42 hl (k := 4) rfl rfl (by decide) rfl (fun ls hl => ?_)
            refine lv_goto (tgt := 6) hx hb d_Board_countKeys_45 (by decide) ?_
            exact ih (x4_1 + 1) (x5_1 + 1) _ _ _ hP hS (lv_sub hl [2, 3, 4, 1, 0] rfl) (fun hn => hs (hf.symm.trans hn)) (fun v ho => hexit v (hf.symm.trans ho))
  refine lp6_1 FU (0 : Int32) (0 : Int32) _ _ _ hP hS (lv_sub hl [2, 3, 4, 1, 0] rfl) (fun hn => ?_) (fun v5 hvv5 H locs ls hP hS hl => ?_)
  · rw [hn] at hf; exact hs hf.symm
  · rw [hvv5, Option.bind_some] at hf
    refine lv_iload hx hb d_Board_countKeys_48 (lv_at hl 3 rfl) ?_
    rw [← hQ]
    exact W.iret (v := v5) hx hb hr (fun t ht hW => ⟨⟨v5, (), rfl, hf.symm, by rw [ht]; exact hP, va_K.moved hW.alike hK⟩, hS.F ht⟩) hS.2.2 d_Board_countKeys_50
set_option maxHeartbeats 4000000 in
set_option maxRecDepth 100000 in
theorem c_Board_allDoors (l : Launch) (D : va_G) (cA : Nat → ClassId) (ad : Nat → Nat) (hI : InjA ad) (sz : Nat) (S : SS) (hs : f_Board_allDoors S ≠ none) : Met l y_Board_allDoors w_Board_allDoors ({ frames := 0, cells := 0, slots := 0, locals := 0 }) (va_Pc [.ref (ad 2)] (fun U => U.heap.size = sz ∧ va_P D vwCl (X cA ad S) U.heap ∧ va_K D vwCl (tysX cA) U)) (va_Qi (fun (r : Int32) (_ : Unit) => f_Board_allDoors S = some r) (fun (_ : Unit) t => va_P D vwCl (X cA ad S) t.heap ∧ va_K D vwCl (tysX cA) t) (AS ad sz)) 0 0 (AS ad sz) := by
  refine Met.ofW (cc := b_Board_allDoors) (maxL := 1) (ret := (some .int)) (by decide) rfl ?_
  intro p e s m args below meth c s₁ B hml hv
  obtain ⟨rfl, hsz, hP, hK⟩ := hv
  have hx := B.exec
  have hb := B.bytes
  have hr := B.returns
  have hts := atoms_spec (ws := w_Board_allDoors) B.pre
  have ht := fun w h => hts w (List.mem_cons_of_mem _ h)
  have hown : s.vm.findClass R_Board = some m.cls := findClass_of_methodNamed B.named
  have hlocks := B.notSynchronized
  subst hsz
  have hAd : ∀ q, q < NP → AS ad s.heap.size (ad q) := fun q h => Or.inl ⟨q, h, rfl⟩
  have hA : ∀ q : Nat, s.heap.size ≤ q → AS ad s.heap.size q := fun q h => Or.inr h
  have hAS : ∀ z : Nat, s.heap.size ≤ z → ∀ q : Nat, AS ad z q → AS ad s.heap.size q := fun z h q hq => hq.elim Or.inl (fun g => Or.inr (Nat.le_trans h g))
  generalize hAe : AS ad s.heap.size = A at hAd hA hAS ⊢
  have hS : va_S A s.heap s.heap [] := va_S.rf
  have hl := lv_entry ([.ref (ad 2)]) (n := 1) (Nat.le_of_ble_eq_true rfl)
  rw [lg_entry_eq]
  generalize (lg_sl ([.ref (ad 2)]) ++ List.replicate (1 - (lg_sl ([.ref (ad 2)])).length) Slot.unset).toArray = ls at hl ⊢
  have hl : lv_has ls 1 [(0, .ref (ad 2))] := hl
  have hf := (f_Board_allDoors_s S).symm
  generalize hQ : MQ below _ _ s _ _ _ = Q
  refine lv_iconst (v := 1) hx hb d_Board_allDoors_0 (by decide) ?_
  refine lv_aload_n hx hb d_Board_allDoors_1 rfl (lv_at hl 0 rfl) ?_
  refine va_get (D := D) (ci := 2) (v := .int (S.1 2 2)) (C := R_Board) (T := T_Board) (N := 7) hx hb ht i_Board hown hK hP 2 Xa_2 rfl 2 (by decide) (ht _ mF_Board_33) (fun _ h9 => h9) rfl d_Board_allDoors_2 ?_
  refine lv_ishl hx hb d_Board_allDoors_5 ?_
  refine lv_iconst (v := 1) hx hb d_Board_allDoors_6 (by decide) ?_
  refine lv_isub hx hb d_Board_allDoors_7 ?_
  rw [← hQ]
  exact W.iret (v := ((1 : Int32) <<< ((S.1 2 2) &&& 31)) - (1 : Int32)) hx hb hr (fun t ht hW => ⟨⟨((1 : Int32) <<< ((S.1 2 2) &&& 31)) - (1 : Int32), (), rfl, hf.symm, by rw [ht]; exact hP, va_K.moved hW.alike hK⟩, hS.F ht⟩) hS.2.2 d_Board_allDoors_8
set_option maxHeartbeats 4000000 in
set_option maxRecDepth 100000 in
theorem c_Board_enter (l : Launch) (D : va_G) (cA : Nat → ClassId) (ad : Nat → Nat) (hI : InjA ad) (sz : Nat) (a1 : Int32) (S : SS) (hs : f_Board_enter a1 S ≠ none) : Met l y_Board_enter w_Board_enter ({ frames := 2, cells := 0, slots := 0, locals := 45 }) (va_Pc [.ref (ad 2), .int a1] (fun U => U.heap.size = sz ∧ va_P D vwCl (X cA ad S) U.heap ∧ va_K D vwCl (tysX cA) U)) (va_Qv (fun (u : SS) => f_Board_enter a1 S = some u) (fun (u : SS) t => va_P D vwCl (X cA ad u) t.heap ∧ va_K D vwCl (tysX cA) t) (AS ad sz)) 0 0 (AS ad sz) := by
  refine Met.ofW (cc := b_Board_enter) (maxL := 4) (ret := none) (by decide) rfl ?_
  intro p e s m args below meth c s₁ B hml hv
  obtain ⟨rfl, hsz, hP, hK⟩ := hv
  have hx := B.exec
  have hb := B.bytes
  have hr := B.returns
  have hts := atoms_spec (ws := w_Board_enter) B.pre
  have ht := fun w h => hts w (List.mem_cons_of_mem _ h)
  have hown : s.vm.findClass R_Board = some m.cls := findClass_of_methodNamed B.named
  have hlocks := B.notSynchronized
  subst hsz
  have hAd : ∀ q, q < NP → AS ad s.heap.size (ad q) := fun q h => Or.inl ⟨q, h, rfl⟩
  have hA : ∀ q : Nat, s.heap.size ≤ q → AS ad s.heap.size q := fun q h => Or.inr h
  have hAS : ∀ z : Nat, s.heap.size ≤ z → ∀ q : Nat, AS ad z q → AS ad s.heap.size q := fun z h q hq => hq.elim Or.inl (fun g => Or.inr (Nat.le_trans h g))
  generalize hAe : AS ad s.heap.size = A at hAd hA hAS ⊢
  have hS : va_S A s.heap s.heap [] := va_S.rf
  have hl := lv_entry ([.ref (ad 2), .int a1]) (n := 4) (Nat.le_of_ble_eq_true rfl)
  rw [lg_entry_eq]
  generalize (lg_sl ([.ref (ad 2), .int a1]) ++ List.replicate (4 - (lg_sl ([.ref (ad 2), .int a1])).length) Slot.unset).toArray = ls at hl ⊢
  have hl : lv_has ls 4 [(0, .ref (ad 2)), (1, .int a1)] := hl
  have hf := (f_Board_enter_s a1 S).symm
  generalize hQ : MQ below _ _ s _ _ _ = Q
  refine lv_aload_n hx hb d_Board_enter_0 rfl (lv_at hl 0 rfl) ?_
  refine va_get (D := D) (ci := 2) (v := .int (S.1 2 1)) (C := R_Board) (T := T_Board) (N := 7) hx hb ht i_Board hown hK hP 2 Xa_2 rfl 1 (by decide) (ht _ mF_Board_45) (fun _ h9 => h9) rfl d_Board_enter_1 ?_
  refine lv_istore_n (lv' := [(2, .int (S.1 2 1)), (0, .ref (ad 2)), (1, .int a1)]) hx hb d_Board_enter_4 rfl hl (by decide) rfl (fun ls hl => ?_)
  refine lv_aload_n hx hb d_Board_enter_5 rfl (lv_at hl 1 rfl) ?_
  refine va_get (D := D) (ci := 2) (v := .ref (ad 5)) (C := R_Board) (T := T_Board) (N := 7) hx hb ht i_Board hown hK hP 2 Xa_2 rfl 3 (by decide) (ht _ mF_Board_9) (fun _ h9 => h9) rfl d_Board_enter_6 ?_
  refine lv_iload_n hx hb d_Board_enter_9 rfl (lv_at hl 0 rfl) ?_
  refine lv_iload_n hx hb d_Board_enter_10 rfl (lv_at hl 2 rfl) ?_
  by_cases b1 : oob (S.1 2 1) 8
  · rw [if_pos b1] at hf; exact absurd hf.symm hs
  rw [if_neg b1] at hf
  refine va_iast hx hb hK hP (X_D hI hAd) hS 5 0 Xa_5 rfl b1 d_Board_enter_11 (fun H locs hP _ hS => ?_)
  replace hP := X_stI (by decide) Xc_5 hP
  refine lv_aload_n hx hb d_Board_enter_12 rfl (lv_at hl 1 rfl) ?_
  refine va_get (D := D) (ci := 2) (v := .ref (ad 7)) (C := R_Board) (T := T_Board) (N := 7) hx hb ht i_Board hown hK hP 2 Xa_2 rfl 5 (by decide) (ht _ mF_Board_20) (fun _ h9 => h9) rfl d_Board_enter_13 ?_
  refine lv_iload_n hx hb d_Board_enter_16 rfl (lv_at hl 0 rfl) ?_
  refine lv_aload_n hx hb d_Board_enter_17 rfl (lv_at hl 1 rfl) ?_
  refine lv_iload_n hx hb d_Board_enter_18 rfl (lv_at hl 0 rfl) ?_
  refine va_calll (va_runV (As := [.int (S.1 2 1)]) (rest := [.int (S.1 2 1), .ref (ad 7)]) ⟨hx, hb, hml, hown, ht⟩ (c_Board_rowFromCuts l D cA ad hI H.size (S.1 2 1) (wI S 5 (S.1 2 1).toNatClampNeg a1) (fun hn => hs (by rw [hn] at hf; exact hf.symm))) (cwV 1 ht (good_G (gV mM_Board_56 mI_Board_rowFromCuts mV_Board_rowFromCuts mN_Board mk_Board_rowFromCuts)) rfl rfl rfl (by decide +kernel) ⟨Nat.le_of_ble_eq_true rfl, Nat.le_of_ble_eq_true rfl⟩) ⟨fun a U g mk q => ⟨q.1, q.2.1, q.2.2.1, va_K.moved (u := U) (U := U.calling g mk a) (Vm.Alike.refl U.vm) q.2.2.2⟩, va_recv hK hP (ci := 2) (q0 := 2) rfl Xa_2, fun U hU hW => ⟨rfl, by rw [hU], by rw [hU]; exact hP, va_K.moved hW.alike hK⟩⟩ rfl rfl hl.1 rfl (lv_room (Nat.le_of_ble_eq_true rfl)) d_Board_enter_19 ⟨Nat.le_of_ble_eq_true rfl, Nat.le_of_ble_eq_true rfl⟩) hS (fun q _ h => hAS _ hS.1 q h) (fun q h => hAS _ hS.1 q h) (fun r1 _ t H locs ht9 hvm hw hB hz1 hk1 hS => ?_)
  obtain ⟨hP, hK9⟩ := hB
  rw [ht9] at hP
  rw [hw, Option.bind_some] at hf
  refine va_last hx hb hK hP (X_D hI hAd) hS 7 1 Xa_7 rfl b1 d_Board_enter_22 (fun H locs hP _ hS => ?_)
  replace hP := X_stL (by decide) Xc_7 hP
  refine lv_iconst (v := 0) hx hb d_Board_enter_23 (by decide) ?_
  refine lv_istore_n (lv' := [(3, .int (0 : Int32)), (2, .int (S.1 2 1)), (0, .ref (ad 2)), (1, .int a1)]) hx hb d_Board_enter_24 rfl hl (by decide) rfl (fun ls hl => ?_)
  have lp25_1 : ∀ (n : Nat) (x3_1 : Int32) (Sx : SS) (H : Heap) (locs : List Loc) (ls : Array Slot), va_P D vwCl (X cA ad Sx) H → va_S A s.heap H locs → lv_has ls 4 [(0, .ref (ad 2)), (2, .int (S.1 2 1)), (3, .int x3_1)] → f_Board_enter_L25 (S.1 2 1) n x3_1 Sx ≠ none →
      (∀ v : SS, f_Board_enter_L25 (S.1 2 1) n x3_1 Sx = some v → ∀ (H : Heap) (locs : List Loc) (ls : Array Slot), va_P D vwCl (X cA ad v) H → va_S A s.heap H locs → lv_has ls 4 [(0, .ref (ad 2)), (2, .int (S.1 2 1))] → W p l e (headSpec w_Board_enter ({ frames := 2, cells := 0, slots := 0, locals := 45 })).room s m ([.ref (ad 2), .int a1] : List Value).toArray below meth c H locs 0 0 Q (F0 m 57 ls [])) →
      W p l e (headSpec w_Board_enter ({ frames := 2, cells := 0, slots := 0, locals := 45 })).room s m ([.ref (ad 2), .int a1] : List Value).toArray below meth c H locs 0 0 Q (F0 m 25 ls []) := by
    intro n
    induction n with
    | zero => intro x3_1 Sx H locs ls hP hS hl hs; exact absurd rfl hs
    | succ n ih =>
      intro x3_1 Sx H locs ls hP hS hl hs hexit
      have hf := (f_Board_enter_L25_s (S.1 2 1) n x3_1 Sx).symm
      refine lv_iload_n hx hb d_Board_enter_25 rfl (lv_at hl 2 rfl) ?_
      refine lv_aload_n hx hb d_Board_enter_26 rfl (lv_at hl 0 rfl) ?_
      refine va_get (D := D) (ci := 2) (v := .int (Sx.1 2 2)) (C := R_Board) (T := T_Board) (N := 7) hx hb ht i_Board hown hK hP 2 Xa_2 rfl 2 (by decide) (ht _ mF_Board_33) (fun _ h9 => h9) rfl d_Board_enter_27 ?_
      refine lv_icmp_ge (tgt := 57) hx hb d_Board_enter_30 (by decide) (fun c2 => ?_) (fun c2 => ?_)
      · rw [if_pos c2] at hf
        exact hexit _ hf.symm _ _ _ hP hS (lv_sub hl [0, 1] rfl)
      · rw [if_neg c2] at hf
        refine lv_aload_n hx hb d_Board_enter_33 rfl (lv_at hl 0 rfl) ?_
        refine va_get (D := D) (ci := 2) (v := .ref (ad 8)) (C := R_Board) (T := T_Board) (N := 7) hx hb ht i_Board hown hK hP 2 Xa_2 rfl 6 (by decide) (ht _ mF_Board_26) (fun _ h9 => h9) rfl d_Board_enter_34 ?_
        refine lv_iload_n hx hb d_Board_enter_37 rfl (lv_at hl 1 rfl) ?_
        refine lv_iconst (v := 1) hx hb d_Board_enter_38 (by decide) ?_
        refine lv_iadd hx hb d_Board_enter_39 ?_
        by_cases b3 : oob ((S.1 2 1) + (1 : Int32)) 9
        · rw [if_pos b3] at hf; exact absurd hf.symm hs
        rw [if_neg b3] at hf
        refine gz_aald hx hb hK hP 8 3 Xa_8 rfl b3 d_Board_enter_40 ?_
        rw [X_row b3]
        refine lv_iload_n hx hb d_Board_enter_41 rfl (lv_at hl 2 rfl) ?_
        refine lv_aload_n hx hb d_Board_enter_42 rfl (lv_at hl 0 rfl) ?_
        refine va_get (D := D) (ci := 2) (v := .ref (ad 8)) (C := R_Board) (T := T_Board) (N := 7) hx hb ht i_Board hown hK hP 2 Xa_2 rfl 6 (by decide) (ht _ mF_Board_26) (fun _ h9 => h9) rfl d_Board_enter_43 ?_
        refine lv_iload_n hx hb d_Board_enter_46 rfl (lv_at hl 1 rfl) ?_
        by_cases b4 : oob (S.1 2 1) 9
        · rw [if_pos b4] at hf; exact absurd hf.symm hs
        rw [if_neg b4] at hf
        refine gz_aald hx hb hK hP 8 3 Xa_8 rfl b4 d_Board_enter_47 ?_
        rw [X_row b4]
        refine lv_iload_n hx hb d_Board_enter_48 rfl (lv_at hl 2 rfl) ?_
        by_cases b5 : oob x3_1 6
        · rw [if_pos b5] at hf; exact absurd hf.symm hs
        rw [if_neg b5] at hf
        refine va_lald (f := Sx.2 (18 + (S.1 2 1).toNatClampNeg)) hx hb hK hP (18 + (S.1 2 1).toNatClampNeg) 1 (X_rowat8 b4) rfl b5 d_Board_enter_49 ?_
        refine va_last hx hb hK hP (X_D hI hAd) hS (18 + ((S.1 2 1) + (1 : Int32)).toNatClampNeg) 1 (X_rowat8 b3) rfl b5 d_Board_enter_50 (fun H locs hP _ hS => ?_)
        replace hP := X_stL (X_rowlt8 b3) (X_rowcell8 b3) hP
        refine lv_iinc (v := x3_1 + 1) (lv' := [(3, .int (x3_1 + 1)), (0, .ref (ad 2)), (2, .int (S.1 2 1))]) hx hb d_Board_enter_51 hl (k := 2) rfl rfl (by decide) rfl (fun ls hl => ?_)
        refine lv_goto (tgt := 25) hx hb d_Board_enter_54 (by decide) ?_
        exact ih (x3_1 + 1) (wL Sx (18 + ((S.1 2 1) + (1 : Int32)).toNatClampNeg) x3_1.toNatClampNeg (Sx.2 (18 + (S.1 2 1).toNatClampNeg) x3_1.toNatClampNeg)) _ _ _ hP hS (lv_sub hl [1, 2, 0] rfl) (fun hn => hs (hf.symm.trans hn)) (fun v ho => hexit v (hf.symm.trans ho))
  refine lp25_1 FU (0 : Int32) (wL (wI S 5 (S.1 2 1).toNatClampNeg a1) 7 (S.1 2 1).toNatClampNeg r1) _ _ _ hP hS (lv_sub hl [2, 1, 0] rfl) (fun hn => ?_) (fun v6 hvv6 H locs ls hP hS hl => ?_)
  · rw [hn] at hf; exact hs hf.symm
  · rw [hvv6, Option.bind_some] at hf
    refine lv_aload_n hx hb d_Board_enter_57 rfl (lv_at hl 0 rfl) ?_
    refine lv_dup hx hb d_Board_enter_58 rfl ?_
    refine va_get (D := D) (ci := 2) (v := .int (v6.1 2 1)) (C := R_Board) (T := T_Board) (N := 7) hx hb ht i_Board hown hK hP 2 Xa_2 rfl 1 (by decide) (ht _ mF_Board_45) (fun _ h9 => h9) rfl d_Board_enter_59 ?_
    refine lv_iconst (v := 1) hx hb d_Board_enter_62 (by decide) ?_
    refine lv_iadd hx hb d_Board_enter_63 ?_
    refine va_put (D := D) (ci := 2) (v := .int ((v6.1 2 1) + (1 : Int32))) (ty := .int) (C := R_Board) (T := T_Board) (N := 7) hx hb ht i_Board t_Board t_Board_ok n_Board hown hK hP (X_D hI hAd) hS 2 Xa_2 rfl 1 (by decide) (ht _ mF_Board_45) (fun _ h9 => h9) rfl (by decide +kernel) rfl rfl (Nat.le_of_ble_eq_true rfl) d_Board_enter_64 (fun H locs hP _ hS => ?_)
    replace hP := X_putI (by decide) hP rfl
    rw [← hQ]
    exact W.vret hx hb hr (fun t ht hW => ⟨⟨wI v6 2 1 ((v6.1 2 1) + (1 : Int32)), rfl, hf.symm, by rw [ht]; exact hP, va_K.moved hW.alike hK⟩, hS.F ht⟩) hS.2.2 d_Board_enter_67
