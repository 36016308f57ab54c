set_option maxHeartbeats 4000000 in
set_option maxRecDepth 100000 in
theorem c_Rows_state (l : Launch) (D : va_G) (cA : Nat → ClassId) (ad : Nat → Nat) (hI : InjA ad) (sz : Nat) (a0 : Int32) (a1 : Int32) (S : SS) (hs : f_Rows_state a0 a1 S ≠ none) : Met l y_Rows_state w_Rows_state ({ frames := 0, cells := 0, slots := 0, locals := 0 }) (va_Pc [.int a0, .int a1] (fun U => U.heap.size = sz ∧ va_P D vwCl (X cA ad S) U.heap ∧ va_K D vwCl (tysX cA) U)) (va_Qi (fun (r : Int32) (_ : Unit) => f_Rows_state a0 a1 S = some r) (fun (_ : Unit) t => va_P D vwCl (X cA ad S) t.heap ∧ va_K D vwCl (tysX cA) t) (AS ad sz)) 0 0 (AS ad sz) := by
  refine Met.ofW (cc := b_Rows_state) (maxL := 2) (ret := (some .int)) (by decide) rfl ?_
  intro p e s m args below meth c s₁ B hml hv
  obtain ⟨rfl, hsz, hP, hK⟩ := hv
  have hx := B.exec
  have hb := B.bytes
  have hr := B.returns
  have hts := atoms_spec (ws := w_Rows_state) B.pre
  have ht := fun w h => hts w (List.mem_cons_of_mem _ h)
  have hown : s.vm.findClass R_Rows = some m.cls := findClass_of_methodNamed B.named
  have hlocks := B.notSynchronized
  subst hsz
  have hAd : ∀ q, q < NP → AS ad s.heap.size (ad q) := fun q h => Or.inl ⟨q, h, rfl⟩
  have hA : ∀ q : Nat, s.heap.size ≤ q → AS ad s.heap.size q := fun q h => Or.inr h
  have hAS : ∀ z : Nat, s.heap.size ≤ z → ∀ q : Nat, AS ad z q → AS ad s.heap.size q := fun z h q hq => hq.elim Or.inl (fun g => Or.inr (Nat.le_trans h g))
  generalize hAe : AS ad s.heap.size = A at hAd hA hAS ⊢
  have hS : va_S A s.heap s.heap [] := va_S.rf
  have hl := lv_entry ([.int a0, .int a1]) (n := 2) (Nat.le_of_ble_eq_true rfl)
  rw [lg_entry_eq]
  generalize (lg_sl ([.int a0, .int a1]) ++ List.replicate (2 - (lg_sl ([.int a0, .int a1])).length) Slot.unset).toArray = ls at hl ⊢
  have hl : lv_has ls 2 [(0, .int a0), (1, .int a1)] := hl
  have hf := (f_Rows_state_s a0 a1 S).symm
  generalize hQ : MQ below _ _ s _ _ _ = Q
  refine lv_iload_n hx hb d_Rows_state_0 rfl (lv_at hl 0 rfl) ?_
  refine lv_bipush (v := 64) hx hb d_Rows_state_1 (by decide) ?_
  refine lv_imul hx hb d_Rows_state_3 ?_
  refine lv_iload_n hx hb d_Rows_state_4 rfl (lv_at hl 1 rfl) ?_
  refine lv_iadd hx hb d_Rows_state_5 ?_
  rw [← hQ]
  exact W.iret (v := (a0 * (64 : Int32)) + a1) hx hb hr (fun t ht hW => ⟨⟨(a0 * (64 : Int32)) + a1, (), rfl, hf.symm, by rw [ht]; exact hP, va_K.moved hW.alike hK⟩, hS.F ht⟩) hS.2.2 d_Rows_state_6
set_option maxHeartbeats 4000000 in
set_option maxRecDepth 100000 in
theorem c_Rows_addWays (l : Launch) (D : va_G) (cA : Nat → ClassId) (ad : Nat → Nat) (hI : InjA ad) (sz : Nat) (a1 : Int32) (a2 : Int32) (a3 : Int32) (a4 : Int32) (S : SS) (hs : f_Rows_addWays a1 a2 a3 a4 S ≠ none) : Met l y_Rows_addWays w_Rows_addWays ({ frames := 1, cells := 0, slots := 0, locals := 21 }) (va_Pc [.ref (ad 4), .int a1, .int a2, .int a3, .int a4] (fun U => U.heap.size = sz ∧ va_P D vwCl (X cA ad S) U.heap ∧ va_K D vwCl (tysX cA) U)) (va_Qv (fun (u : SS) => f_Rows_addWays a1 a2 a3 a4 S = some u) (fun (u : SS) t => va_P D vwCl (X cA ad u) t.heap ∧ va_K D vwCl (tysX cA) t) (AS ad sz)) 0 0 (AS ad sz) := by
  refine Met.ofW (cc := b_Rows_addWays) (maxL := 6) (ret := none) (by decide) rfl ?_
  intro p e s m args below meth c s₁ B hml hv
  obtain ⟨rfl, hsz, hP, hK⟩ := hv
  have hx := B.exec
  have hb := B.bytes
  have hr := B.returns
  have hts := atoms_spec (ws := w_Rows_addWays) B.pre
  have ht := fun w h => hts w (List.mem_cons_of_mem _ h)
  have hown : s.vm.findClass R_Rows = some m.cls := findClass_of_methodNamed B.named
  have hlocks := B.notSynchronized
  subst hsz
  have hAd : ∀ q, q < NP → AS ad s.heap.size (ad q) := fun q h => Or.inl ⟨q, h, rfl⟩
  have hA : ∀ q : Nat, s.heap.size ≤ q → AS ad s.heap.size q := fun q h => Or.inr h
  have hAS : ∀ z : Nat, s.heap.size ≤ z → ∀ q : Nat, AS ad z q → AS ad s.heap.size q := fun z h q hq => hq.elim Or.inl (fun g => Or.inr (Nat.le_trans h g))
  generalize hAe : AS ad s.heap.size = A at hAd hA hAS ⊢
  have hS : va_S A s.heap s.heap [] := va_S.rf
  have hl := lv_entry ([.ref (ad 4), .int a1, .int a2, .int a3, .int a4]) (n := 6) (Nat.le_of_ble_eq_true rfl)
  rw [lg_entry_eq]
  generalize (lg_sl ([.ref (ad 4), .int a1, .int a2, .int a3, .int a4]) ++ List.replicate (6 - (lg_sl ([.ref (ad 4), .int a1, .int a2, .int a3, .int a4])).length) Slot.unset).toArray = ls at hl ⊢
  have hl : lv_has ls 6 [(0, .ref (ad 4)), (1, .int a1), (2, .int a2), (3, .int a3), (4, .int a4)] := hl
  have hf := (f_Rows_addWays_s a1 a2 a3 a4 S).symm
  generalize hQ : MQ below _ _ s _ _ _ = Q
  refine lv_iconst (v := 0) hx hb d_Rows_addWays_0 (by decide) ?_
  refine lv_istore (lv' := [(5, .int (0 : Int32)), (0, .ref (ad 4)), (1, .int a1), (2, .int a2), (3, .int a3), (4, .int a4)]) hx hb d_Rows_addWays_1 hl (by decide) rfl (fun ls hl => ?_)
  have lp3_1 : ∀ (n : Nat) (x5_1 : Int32) (Sx : SS) (H : Heap) (locs : List Loc) (ls : Array Slot), va_P D vwCl (X cA ad Sx) H → va_S A s.heap H locs → lv_has ls 6 [(0, .ref (ad 4)), (1, .int a1), (2, .int a2), (3, .int a3), (4, .int a4), (5, .int x5_1)] → f_Rows_addWays_L3 a1 a2 a3 a4 n x5_1 Sx ≠ none →
      (∀ v : SS, f_Rows_addWays_L3 a1 a2 a3 a4 n x5_1 Sx = some v → ∀ (H : Heap) (locs : List Loc) (ls : Array Slot), va_P D vwCl (X cA ad v) H → va_S A s.heap H locs → lv_has ls 6 [(0, .ref (ad 4)), (1, .int a1), (2, .int a2), (3, .int a3), (4, .int a4)] → W p l e (headSpec w_Rows_addWays ({ frames := 1, cells := 0, slots := 0, locals := 21 })).room s m ([.ref (ad 4), .int a1, .int a2, .int a3, .int a4] : List Value).toArray below meth c H locs 0 0 Q (F0 m 50 ls [])) →
      W p l e (headSpec w_Rows_addWays ({ frames := 1, cells := 0, slots := 0, locals := 21 })).room s m ([.ref (ad 4), .int a1, .int a2, .int a3, .int a4] : List Value).toArray below meth c H locs 0 0 Q (F0 m 3 ls []) := by
    intro n
    induction n with
    | zero => intro x5_1 Sx H locs ls hP hS hl hs; exact absurd rfl hs
    | succ n ih =>
      intro x5_1 Sx H locs ls hP hS hl hs hexit
      have hf := (f_Rows_addWays_L3_s a1 a2 a3 a4 n x5_1 Sx).symm
      refine lv_iload hx hb d_Rows_addWays_3 (lv_at hl 5 rfl) ?_
      refine lv_bipush (v := 64) hx hb d_Rows_addWays_5 (by decide) ?_
      refine lv_icmp_ge (tgt := 50) hx hb d_Rows_addWays_7 (by decide) (fun c1 => ?_) (fun c1 => ?_)
      · rw [if_pos c1] at hf
        exact hexit _ hf.symm _ _ _ hP hS (lv_sub hl [0, 1, 2, 3, 4] rfl)
      · rw [if_neg c1] at hf
        refine lv_aload_n hx hb d_Rows_addWays_10 rfl (lv_at hl 0 rfl) ?_
        refine va_get (D := D) (ci := 4) (v := .ref (ad 9)) (C := R_Rows) (T := T_Rows) (N := 3) hx hb ht i_Rows hown hK hP 4 Xa_4 rfl 2 (by decide) (ht _ mF_Rows_11) (fun _ h9 => h9) rfl d_Rows_addWays_11 ?_
        refine lv_iload_n hx hb d_Rows_addWays_14 rfl (lv_at hl 1 rfl) ?_
        by_cases b2 : oob a1 6
        · rw [if_pos b2] at hf; exact absurd hf.symm hs
        rw [if_neg b2] at hf
        refine gz_aald hx hb hK hP 9 2 Xa_9 rfl b2 d_Rows_addWays_15 ?_
        rw [X_row b2]
        refine lv_iload_n hx hb d_Rows_addWays_16 rfl (lv_at hl 2 rfl) ?_
        refine lv_iload hx hb d_Rows_addWays_17 (lv_at hl 5 rfl) ?_
        refine va_calli (va_runS (As := [.int a2, .int x5_1]) (rest := [.ref (ad (27 + a1.toNatClampNeg))]) ⟨hx, hb, hml, hown, ht⟩ (c_Rows_state l D cA ad hI H.size a2 x5_1 Sx (fun hn => hs (by rw [hn] at hf; exact hf.symm))) (va_cwS 2 ht (good_G (gS mM_Rows_40 mS_Rows_state mN_Rows mk_Rows_state)) rfl rfl rfl (by decide +kernel) ⟨Nat.le_of_ble_eq_true rfl, Nat.le_of_ble_eq_true rfl⟩) ⟨fun a U g mk q => ⟨q.1, q.2.1, q.2.2.1, va_K.moved (u := U) (U := U.calling g mk a) (Vm.Alike.refl U.vm) q.2.2.2⟩, fun U hU hW => ⟨rfl, by rw [hU], by rw [hU]; exact hP, va_K.moved hW.alike hK⟩⟩ rfl rfl hl.1 rfl (lv_room (Nat.le_of_ble_eq_true rfl)) d_Rows_addWays_19 ⟨Nat.le_of_ble_eq_true rfl, Nat.le_of_ble_eq_true rfl⟩) hS (fun q _ h => hAS _ hS.1 q h) (fun q h => hAS _ hS.1 q h) (fun r1 _ t H locs ht9 hvm hw hB hz1 hk1 hS => ?_)
        obtain ⟨hP, hK9⟩ := hB
        rw [ht9] at hP
        rw [hw, Option.bind_some] at hf
        refine lv_dup2_11 hx hb d_Rows_addWays_22 rfl rfl ?_
        by_cases b3 : oob r1 512
        · rw [if_pos b3] at hf; exact absurd hf.symm hs
        rw [if_neg b3] at hf
        refine va_iald (f := Sx.1 (27 + a1.toNatClampNeg)) hx hb hK hP (27 + a1.toNatClampNeg) 0 (X_rowat9 b2) rfl b3 d_Rows_addWays_23 ?_
        refine lv_aload_n hx hb d_Rows_addWays_24 rfl (lv_at hl 0 rfl) ?_
        refine va_get (D := D) (ci := 4) (v := .ref (ad 9)) (C := R_Rows) (T := T_Rows) (N := 3) hx hb ht i_Rows hown hK hP 4 Xa_4 rfl 2 (by decide) (ht _ mF_Rows_11) (fun _ h9 => h9) rfl d_Rows_addWays_25 ?_
        refine lv_iload_n hx hb d_Rows_addWays_28 rfl (lv_at hl 1 rfl) ?_
        refine lv_iconst (v := 1) hx hb d_Rows_addWays_29 (by decide) ?_
        refine lv_iadd hx hb d_Rows_addWays_30 ?_
        by_cases b4 : oob (a1 + (1 : Int32)) 6
        · rw [if_pos b4] at hf; exact absurd hf.symm hs
        rw [if_neg b4] at hf
        refine gz_aald hx hb hK hP 9 2 Xa_9 rfl b4 d_Rows_addWays_31 ?_
        rw [X_row b4]
        refine lv_iload_n hx hb d_Rows_addWays_32 rfl (lv_at hl 3 rfl) ?_
        refine lv_iload hx hb d_Rows_addWays_33 (lv_at hl 5 rfl) ?_
        refine lv_iload hx hb d_Rows_addWays_35 (lv_at hl 4 rfl) ?_
        refine lv_iand hx hb d_Rows_addWays_37 ?_
        refine va_calli (va_runS (As := [.int a3, .int (x5_1 &&& a4)]) (rest := [.ref (ad (27 + (a1 + (1 : Int32)).toNatClampNeg)), .int (Sx.1 (27 + a1.toNatClampNeg) r1.toNatClampNeg), .int r1, .ref (ad (27 + a1.toNatClampNeg))]) ⟨hx, hb, hml, hown, ht⟩ (c_Rows_state l D cA ad hI H.size a3 (x5_1 &&& a4) Sx (fun hn => hs (by rw [hn] at hf; exact hf.symm))) (va_cwS 2 ht (good_G (gS mM_Rows_40 mS_Rows_state mN_Rows mk_Rows_state)) rfl rfl rfl (by decide +kernel) ⟨Nat.le_of_ble_eq_true rfl, Nat.le_of_ble_eq_true rfl⟩) ⟨fun a U g mk q => ⟨q.1, q.2.1, q.2.2.1, va_K.moved (u := U) (U := U.calling g mk a) (Vm.Alike.refl U.vm) q.2.2.2⟩, fun U hU hW => ⟨rfl, by rw [hU], by rw [hU]; exact hP, va_K.moved hW.alike hK⟩⟩ rfl rfl hl.1 rfl (lv_room (Nat.le_of_ble_eq_true rfl)) d_Rows_addWays_38 ⟨Nat.le_of_ble_eq_true rfl, Nat.le_of_ble_eq_true rfl⟩) hS (fun q _ h => hAS _ hS.1 q h) (fun q h => hAS _ hS.1 q h) (fun r2 _ t H locs ht9 hvm hw hB hz1 hk1 hS => ?_)
        obtain ⟨hP, hK9⟩ := hB
        rw [ht9] at hP
        rw [hw, Option.bind_some] at hf
        by_cases b5 : oob r2 512
        · rw [if_pos b5] at hf; exact absurd hf.symm hs
        rw [if_neg b5] at hf
        refine va_iald (f := Sx.1 (27 + (a1 + (1 : Int32)).toNatClampNeg)) hx hb hK hP (27 + (a1 + (1 : Int32)).toNatClampNeg) 0 (X_rowat9 b4) rfl b5 d_Rows_addWays_41 ?_
        refine lv_iadd hx hb d_Rows_addWays_42 ?_
        refine va_iast hx hb hK hP (X_D hI hAd) hS (27 + a1.toNatClampNeg) 0 (X_rowat9 b2) rfl b3 d_Rows_addWays_43 (fun H locs hP _ hS => ?_)
        replace hP := X_stI (X_rowlt9 b2) (X_rowcell9 b2) hP
        refine lv_iinc (v := x5_1 + 1) (lv' := [(5, .int (x5_1 + 1)), (0, .ref (ad 4)), (1, .int a1), (2, .int a2), (3, .int a3), (4, .int a4)]) hx hb d_Rows_addWays_44 hl (k := 5) rfl rfl (by decide) rfl (fun ls hl => ?_)
        refine lv_goto (tgt := 3) hx hb d_Rows_addWays_47 (by decide) ?_
        exact ih (x5_1 + 1) (wI Sx (27 + a1.toNatClampNeg) r1.toNatClampNeg ((Sx.1 (27 + a1.toNatClampNeg) r1.toNatClampNeg) + (Sx.1 (27 + (a1 + (1 : Int32)).toNatClampNeg) r2.toNatClampNeg))) _ _ _ hP hS (lv_sub hl [1, 2, 3, 4, 5, 0] rfl) (fun hn => hs (hf.symm.trans hn)) (fun v ho => hexit v (hf.symm.trans ho))
  refine lp3_1 FU (0 : Int32) S _ _ _ hP hS (lv_sub hl [1, 2, 3, 4, 5, 0] rfl) (fun hn => ?_) (fun v6 hvv6 H locs ls hP hS hl => ?_)
  · rw [hn] at hf; exact hs hf.symm
  · rw [hvv6, Option.bind_some] at hf
    rw [← hQ]
    exact W.vret hx hb hr (fun t ht hW => ⟨⟨v6, rfl, hf.symm, by rw [ht]; exact hP, va_K.moved hW.alike hK⟩, hS.F ht⟩) hS.2.2 d_Rows_addWays_50
set_option maxHeartbeats 4000000 in
set_option maxRecDepth 100000 in
theorem c_Rows_countWaysBehind (l : Launch) (D : va_G) (cA : Nat → ClassId) (ad : Nat → Nat) (hI : InjA ad) (sz : Nat) (a1 : Int32) (S : SS) (hs : f_Rows_countWaysBehind a1 S ≠ none) : Met l y_Rows_countWaysBehind w_Rows_countWaysBehind ({ frames := 3, cells := 0, slots := 0, locals := 69 }) (va_Pc [.ref (ad 4), .int a1] (fun U => U.heap.size = sz ∧ va_P D vwCl (X cA ad S) U.heap ∧ va_K D vwCl (tysX cA) U)) (va_Qv (fun (u : SS) => f_Rows_countWaysBehind a1 S = some u) (fun (u : SS) t => va_P D vwCl (X cA ad u) t.heap ∧ va_K D vwCl (tysX cA) t) (AS ad sz)) 0 0 (AS ad sz) := by
  refine Met.ofW (cc := b_Rows_countWaysBehind) (maxL := 5) (ret := none) (by decide) rfl ?_
  intro p e s m args below meth c s₁ B hml hv
  obtain ⟨rfl, hsz, hP, hK⟩ := hv
  have hx := B.exec
  have hb := B.bytes
  have hr := B.returns
  have hts := atoms_spec (ws := w_Rows_countWaysBehind) B.pre
  have ht := fun w h => hts w (List.mem_cons_of_mem _ h)
  have hown : s.vm.findClass R_Rows = some m.cls := findClass_of_methodNamed B.named
  have hlocks := B.notSynchronized
  subst hsz
  have hAd : ∀ q, q < NP → AS ad s.heap.size (ad q) := fun q h => Or.inl ⟨q, h, rfl⟩
  have hA : ∀ q : Nat, s.heap.size ≤ q → AS ad s.heap.size q := fun q h => Or.inr h
  have hAS : ∀ z : Nat, s.heap.size ≤ z → ∀ q : Nat, AS ad z q → AS ad s.heap.size q := fun z h q hq => hq.elim Or.inl (fun g => Or.inr (Nat.le_trans h g))
  generalize hAe : AS ad s.heap.size = A at hAd hA hAS ⊢
  have hS : va_S A s.heap s.heap [] := va_S.rf
  have hl := lv_entry ([.ref (ad 4), .int a1]) (n := 5) (Nat.le_of_ble_eq_true rfl)
  rw [lg_entry_eq]
  generalize (lg_sl ([.ref (ad 4), .int a1]) ++ List.replicate (5 - (lg_sl ([.ref (ad 4), .int a1])).length) Slot.unset).toArray = ls at hl ⊢
  have hl : lv_has ls 5 [(0, .ref (ad 4)), (1, .int a1)] := hl
  have hf := (f_Rows_countWaysBehind_s a1 S).symm
  generalize hQ : MQ below _ _ s _ _ _ = Q
  refine lv_iconst (v := 0) hx hb d_Rows_countWaysBehind_0 (by decide) ?_
  refine lv_istore_n (lv' := [(2, .int (0 : Int32)), (0, .ref (ad 4)), (1, .int a1)]) hx hb d_Rows_countWaysBehind_1 rfl hl (by decide) rfl (fun ls hl => ?_)
  have lp2_1 : ∀ (n : Nat) (x2_1 : Int32) (Sx : SS) (H : Heap) (locs : List Loc) (ls : Array Slot), va_P D vwCl (X cA ad Sx) H → va_S A s.heap H locs → lv_has ls 5 [(0, .ref (ad 4)), (1, .int a1), (2, .int x2_1)] → f_Rows_countWaysBehind_L2 a1 n x2_1 Sx ≠ none →
      (∀ v : SS, f_Rows_countWaysBehind_L2 a1 n x2_1 Sx = some v → ∀ (H : Heap) (locs : List Loc) (ls : Array Slot), va_P D vwCl (X cA ad v) H → va_S A s.heap H locs → lv_has ls 5 [(0, .ref (ad 4)), (1, .int a1)] → W p l e (headSpec w_Rows_countWaysBehind ({ frames := 3, cells := 0, slots := 0, locals := 69 })).room s m ([.ref (ad 4), .int a1] : List Value).toArray below meth c H locs 0 0 Q (F0 m 24 ls [])) →
      W p l e (headSpec w_Rows_countWaysBehind ({ frames := 3, cells := 0, slots := 0, locals := 69 })).room s m ([.ref (ad 4), .int a1] : List Value).toArray below meth c H locs 0 0 Q (F0 m 2 ls []) := by
    intro n
    induction n with
    | zero => intro x2_1 Sx H locs ls hP hS hl hs; exact absurd rfl hs
    | succ n ih =>
      intro x2_1 Sx H locs ls hP hS hl hs hexit
      have hf := (f_Rows_countWaysBehind_L2_s a1 n x2_1 Sx).symm
      refine lv_iload_n hx hb d_Rows_countWaysBehind_2 rfl (lv_at hl 2 rfl) ?_
      refine lv_sipush (v := 512) hx hb d_Rows_countWaysBehind_3 (by decide) ?_
      refine lv_icmp_ge (tgt := 24) hx hb d_Rows_countWaysBehind_6 (by decide) (fun c1 => ?_) (fun c1 => ?_)
      · rw [if_pos c1] at hf
        exact hexit _ hf.symm _ _ _ hP hS (lv_sub hl [0, 1] rfl)
      · rw [if_neg c1] at hf
        refine lv_aload_n hx hb d_Rows_countWaysBehind_9 rfl (lv_at hl 0 rfl) ?_
        refine va_get (D := D) (ci := 4) (v := .ref (ad 9)) (C := R_Rows) (T := T_Rows) (N := 3) hx hb ht i_Rows hown hK hP 4 Xa_4 rfl 2 (by decide) (ht _ mF_Rows_11) (fun _ h9 => h9) rfl d_Rows_countWaysBehind_10 ?_
        refine lv_iload_n hx hb d_Rows_countWaysBehind_13 rfl (lv_at hl 1 rfl) ?_
        by_cases b2 : oob a1 6
        · rw [if_pos b2] at hf; exact absurd hf.symm hs
        rw [if_neg b2] at hf
        refine gz_aald hx hb hK hP 9 2 Xa_9 rfl b2 d_Rows_countWaysBehind_14 ?_
        rw [X_row b2]
        refine lv_iload_n hx hb d_Rows_countWaysBehind_15 rfl (lv_at hl 2 rfl) ?_
        refine lv_iconst (v := 0) hx hb d_Rows_countWaysBehind_16 (by decide) ?_
        by_cases b3 : oob x2_1 512
        · rw [if_pos b3] at hf; exact absurd hf.symm hs
        rw [if_neg b3] at hf
        refine va_iast hx hb hK hP (X_D hI hAd) hS (27 + a1.toNatClampNeg) 0 (X_rowat9 b2) rfl b3 d_Rows_countWaysBehind_17 (fun H locs hP _ hS => ?_)
        replace hP := X_stI (X_rowlt9 b2) (X_rowcell9 b2) hP
        refine lv_iinc (v := x2_1 + 1) (lv' := [(2, .int (x2_1 + 1)), (0, .ref (ad 4)), (1, .int a1)]) hx hb d_Rows_countWaysBehind_18 hl (k := 2) rfl rfl (by decide) rfl (fun ls hl => ?_)
        refine lv_goto (tgt := 2) hx hb d_Rows_countWaysBehind_21 (by decide) ?_
        exact ih (x2_1 + 1) (wI Sx (27 + a1.toNatClampNeg) x2_1.toNatClampNeg (0 : Int32)) _ _ _ hP hS (lv_sub hl [1, 2, 0] rfl) (fun hn => hs (hf.symm.trans hn)) (fun v ho => hexit v (hf.symm.trans ho))
  refine lp2_1 FU (0 : Int32) S _ _ _ hP hS (lv_sub hl [1, 2, 0] rfl) (fun hn => ?_) (fun v4 hvv4 H locs ls hP hS hl => ?_)
  · rw [hn] at hf; exact hs hf.symm
  · rw [hvv4, Option.bind_some] at hf
    refine lv_iconst (v := 0) hx hb d_Rows_countWaysBehind_24 (by decide) ?_
    refine lv_istore_n (lv' := [(2, .int (0 : Int32)), (0, .ref (ad 4)), (1, .int a1)]) hx hb d_Rows_countWaysBehind_25 rfl hl (by decide) rfl (fun ls hl => ?_)
    have lp26_2 : ∀ (n : Nat) (x2_2 : Int32) (Sx : SS) (H : Heap) (locs : List Loc) (ls : Array Slot), va_P D vwCl (X cA ad Sx) H → va_S A s.heap H locs → lv_has ls 5 [(0, .ref (ad 4)), (1, .int a1), (2, .int x2_2)] → f_Rows_countWaysBehind_L26 a1 n x2_2 Sx ≠ none →
        (∀ v : SS, f_Rows_countWaysBehind_L26 a1 n x2_2 Sx = some v → ∀ (H : Heap) (locs : List Loc) (ls : Array Slot), va_P D vwCl (X cA ad v) H → va_S A s.heap H locs → lv_has ls 5 [(0, .ref (ad 4)), (1, .int a1)] → W p l e (headSpec w_Rows_countWaysBehind ({ frames := 3, cells := 0, slots := 0, locals := 69 })).room s m ([.ref (ad 4), .int a1] : List Value).toArray below meth c H locs 0 0 Q (F0 m 98 ls [])) →
        W p l e (headSpec w_Rows_countWaysBehind ({ frames := 3, cells := 0, slots := 0, locals := 69 })).room s m ([.ref (ad 4), .int a1] : List Value).toArray below meth c H locs 0 0 Q (F0 m 26 ls []) := by
      intro n
      induction n with
      | zero => intro x2_2 Sx H locs ls hP hS hl hs; exact absurd rfl hs
      | succ n ih =>
        intro x2_2 Sx H locs ls hP hS hl hs hexit
        have hf := (f_Rows_countWaysBehind_L26_s a1 n x2_2 Sx).symm
        refine lv_iload_n hx hb d_Rows_countWaysBehind_26 rfl (lv_at hl 2 rfl) ?_
        refine lv_aload_n hx hb d_Rows_countWaysBehind_27 rfl (lv_at hl 0 rfl) ?_
        refine va_get (D := D) (ci := 4) (v := .ref (ad 1)) (C := R_Rows) (T := T_Rows) (N := 3) hx hb ht i_Rows hown hK hP 4 Xa_4 rfl 0 (by decide) (ht _ mF_Rows_16) (fun _ h9 => h9) rfl d_Rows_countWaysBehind_28 ?_
        refine va_get (D := D) (ci := 1) (v := .int (Sx.1 1 1)) (C := R_Law) (T := T_Law) (N := 5) hx hb ht i_Law hown hK hP 1 Xa_1 rfl 1 (by decide) (ht _ mF_Rows_28) (fun _ h9 => h9) rfl d_Rows_countWaysBehind_31 ?_
        refine lv_icmp_ge (tgt := 98) hx hb d_Rows_countWaysBehind_34 (by decide) (fun c5 => ?_) (fun c5 => ?_)
        · rw [if_pos c5] at hf
          exact hexit _ hf.symm _ _ _ hP hS (lv_sub hl [0, 1] rfl)
        · rw [if_neg c5] at hf
          refine lv_aload_n hx hb d_Rows_countWaysBehind_37 rfl (lv_at hl 0 rfl) ?_
          refine va_get (D := D) (ci := 4) (v := .ref (ad 2)) (C := R_Rows) (T := T_Rows) (N := 3) hx hb ht i_Rows hown hK hP 4 Xa_4 rfl 1 (by decide) (ht _ mF_Rows_20) (fun _ h9 => h9) rfl d_Rows_countWaysBehind_38 ?_
          refine lv_iload_n hx hb d_Rows_countWaysBehind_41 rfl (lv_at hl 1 rfl) ?_
          refine lv_iconst (v := 1) hx hb d_Rows_countWaysBehind_42 (by decide) ?_
          refine lv_iadd hx hb d_Rows_countWaysBehind_43 ?_
          refine lv_iload_n hx hb d_Rows_countWaysBehind_44 rfl (lv_at hl 2 rfl) ?_
          refine va_calli (va_runV (As := [.int (a1 + (1 : Int32)), .int x2_2]) (rest := []) ⟨hx, hb, hml, hown, ht⟩ (c_Board_doorsHolding l D cA ad hI H.size (a1 + (1 : Int32)) x2_2 Sx (fun hn => hs (by rw [hn] at hf; exact hf.symm))) (cwV 2 ht (good_G (gV mM_Rows_34 mI_Board_doorsHolding mV_Board_doorsHolding mN_Board mk_Board_doorsHolding)) rfl rfl rfl (by decide +kernel) ⟨Nat.le_of_ble_eq_true rfl, Nat.le_of_ble_eq_true rfl⟩) ⟨fun a U g mk q => ⟨q.1, q.2.1, q.2.2.1, va_K.moved (u := U) (U := U.calling g mk a) (Vm.Alike.refl U.vm) q.2.2.2⟩, va_recv hK hP (ci := 2) (q0 := 2) rfl Xa_2, fun U hU hW => ⟨rfl, by rw [hU], by rw [hU]; exact hP, va_K.moved hW.alike hK⟩⟩ rfl rfl hl.1 rfl (lv_room (Nat.le_of_ble_eq_true rfl)) d_Rows_countWaysBehind_45 ⟨Nat.le_of_ble_eq_true rfl, Nat.le_of_ble_eq_true rfl⟩) hS (fun q _ h => hAS _ hS.1 q h) (fun q h => hAS _ hS.1 q h) (fun r1 _ t H locs ht9 hvm hw hB hz1 hk1 hS => ?_)
          obtain ⟨hP, hK9⟩ := hB
          rw [ht9] at hP
          rw [hw, Option.bind_some] at hf
          refine lv_istore_n (lv' := [(3, .int r1), (0, .ref (ad 4)), (1, .int a1), (2, .int x2_2)]) hx hb d_Rows_countWaysBehind_48 rfl hl (by decide) rfl (fun ls hl => ?_)
          refine lv_iconst (v := 0) hx hb d_Rows_countWaysBehind_49 (by decide) ?_
          refine lv_istore (lv' := [(4, .int (0 : Int32)), (3, .int r1), (0, .ref (ad 4)), (1, .int a1), (2, .int x2_2)]) hx hb d_Rows_countWaysBehind_50 hl (by decide) rfl (fun ls hl => ?_)
          have lp52_3 : ∀ (n : Nat) (x4_3 : Int32) (Sx : SS) (H : Heap) (locs : List Loc) (ls : Array Slot), va_P D vwCl (X cA ad Sx) H → va_S A s.heap H locs → lv_has ls 5 [(0, .ref (ad 4)), (1, .int a1), (2, .int x2_2), (3, .int r1), (4, .int x4_3)] → f_Rows_countWaysBehind_L52 a1 x2_2 r1 n x4_3 Sx ≠ none →
              (∀ v : SS, f_Rows_countWaysBehind_L52 a1 x2_2 r1 n x4_3 Sx = some v → ∀ (H : Heap) (locs : List Loc) (ls : Array Slot), va_P D vwCl (X cA ad v) H → va_S A s.heap H locs → lv_has ls 5 [(0, .ref (ad 4)), (1, .int a1), (2, .int x2_2), (3, .int r1)] → W p l e (headSpec w_Rows_countWaysBehind ({ frames := 3, cells := 0, slots := 0, locals := 69 })).room s m ([.ref (ad 4), .int a1] : List Value).toArray below meth c H locs 0 0 Q (F0 m 92 ls [])) →
              W p l e (headSpec w_Rows_countWaysBehind ({ frames := 3, cells := 0, slots := 0, locals := 69 })).room s m ([.ref (ad 4), .int a1] : List Value).toArray below meth c H locs 0 0 Q (F0 m 52 ls []) := by
            intro n
            induction n with
            | zero => intro x4_3 Sx H locs ls hP hS hl hs; exact absurd rfl hs
            | succ n ih =>
              intro x4_3 Sx H locs ls hP hS hl hs hexit
              have hf := (f_Rows_countWaysBehind_L52_s a1 x2_2 r1 n x4_3 Sx).symm
              refine lv_iload hx hb d_Rows_countWaysBehind_52 (lv_at hl 4 rfl) ?_
              refine lv_aload_n hx hb d_Rows_countWaysBehind_54 rfl (lv_at hl 0 rfl) ?_
              refine va_get (D := D) (ci := 4) (v := .ref (ad 1)) (C := R_Rows) (T := T_Rows) (N := 3) hx hb ht i_Rows hown hK hP 4 Xa_4 rfl 0 (by decide) (ht _ mF_Rows_16) (fun _ h9 => h9) rfl d_Rows_countWaysBehind_55 ?_
              refine va_get (D := D) (ci := 1) (v := .int (Sx.1 1 1)) (C := R_Law) (T := T_Law) (N := 5) hx hb ht i_Law hown hK hP 1 Xa_1 rfl 1 (by decide) (ht _ mF_Rows_28) (fun _ h9 => h9) rfl d_Rows_countWaysBehind_58 ?_
              refine lv_icmp_ge (tgt := 92) hx hb d_Rows_countWaysBehind_61 (by decide) (fun c6 => ?_) (fun c6 => ?_)
              · rw [if_pos c6] at hf
                exact hexit _ hf.symm _ _ _ hP hS (lv_sub hl [0, 1, 2, 3] rfl)
              · rw [if_neg c6] at hf
                refine lv_aload_n hx hb d_Rows_countWaysBehind_64 rfl (lv_at hl 0 rfl) ?_
                refine va_get (D := D) (ci := 4) (v := .ref (ad 1)) (C := R_Rows) (T := T_Rows) (N := 3) hx hb ht i_Rows hown hK hP 4 Xa_4 rfl 0 (by decide) (ht _ mF_Rows_16) (fun _ h9 => h9) rfl d_Rows_countWaysBehind_65 ?_
                refine lv_iload hx hb d_Rows_countWaysBehind_68 (lv_at hl 4 rfl) ?_
                refine lv_iload_n hx hb d_Rows_countWaysBehind_70 rfl (lv_at hl 2 rfl) ?_
                refine va_calli (va_runV (As := [.int x4_3, .int x2_2]) (rest := []) ⟨hx, hb, hml, hown, ht⟩ (c_Law_mayFollow l D cA ad hI H.size x4_3 x2_2 Sx (fun hn => hs (by rw [hn] at hf; exact hf.symm))) (cwV 2 ht (good_G (gV mM_Rows_68 mI_Law_mayFollow mV_Law_mayFollow mN_Law mk_Law_mayFollow)) rfl rfl rfl (by decide +kernel) ⟨Nat.le_of_ble_eq_true rfl, Nat.le_of_ble_eq_true rfl⟩) ⟨fun a U g mk q => ⟨q.1, q.2.1, q.2.2.1, va_K.moved (u := U) (U := U.calling g mk a) (Vm.Alike.refl U.vm) q.2.2.2⟩, va_recv hK hP (ci := 1) (q0 := 1) rfl Xa_1, fun U hU hW => ⟨rfl, by rw [hU], by rw [hU]; exact hP, va_K.moved hW.alike hK⟩⟩ rfl rfl hl.1 rfl (lv_room (Nat.le_of_ble_eq_true rfl)) d_Rows_countWaysBehind_71 ⟨Nat.le_of_ble_eq_true rfl, Nat.le_of_ble_eq_true rfl⟩) hS (fun q _ h => hAS _ hS.1 q h) (fun q h => hAS _ hS.1 q h) (fun r2 _ t H locs ht9 hvm hw hB hz1 hk1 hS => ?_)
                obtain ⟨hP, hK9⟩ := hB
                rw [ht9] at hP
                obtain ⟨hw, hz2⟩ := hw
                rw [hw, Option.bind_some] at hf
                refine lv_if_eq (tgt := 86) hx hb d_Rows_countWaysBehind_74 (by decide) (fun c7 => ?_) (fun c7 => ?_)
                · rw [if_pos c7] at hf
                  refine lv_iinc (v := x4_3 + 1) (lv' := [(4, .int (x4_3 + 1)), (0, .ref (ad 4)), (1, .int a1), (2, .int x2_2), (3, .int r1)]) hx hb d_Rows_countWaysBehind_86 hl (k := 4) rfl rfl (by decide) rfl (fun ls hl => ?_)
                  refine lv_goto (tgt := 52) hx hb d_Rows_countWaysBehind_89 (by decide) ?_
                  exact ih (x4_3 + 1) Sx _ _ _ hP hS (lv_sub hl [1, 2, 3, 4, 0] rfl) (fun hn => hs (hf.symm.trans hn)) (fun v ho => hexit v (hf.symm.trans ho))
                · rw [if_neg c7] at hf
                  refine lv_aload_n hx hb d_Rows_countWaysBehind_77 rfl (lv_at hl 0 rfl) ?_
                  refine lv_iload_n hx hb d_Rows_countWaysBehind_78 rfl (lv_at hl 1 rfl) ?_
                  refine lv_iload hx hb d_Rows_countWaysBehind_79 (lv_at hl 4 rfl) ?_
                  refine lv_iload_n hx hb d_Rows_countWaysBehind_81 rfl (lv_at hl 2 rfl) ?_
                  refine lv_iload_n hx hb d_Rows_countWaysBehind_82 rfl (lv_at hl 3 rfl) ?_
                  refine va_callv (va_runV (As := [.int a1, .int x4_3, .int x2_2, .int r1]) (rest := []) ⟨hx, hb, hml, hown, ht⟩ (c_Rows_addWays l D cA ad hI H.size a1 x4_3 x2_2 r1 Sx (fun hn => hs (by rw [hn] at hf; exact hf.symm))) (cwV 4 ht (good_G (gV mM_Rows_75 mI_Rows_addWays mV_Rows_addWays mN_Rows mk_Rows_addWays)) rfl rfl rfl (by decide +kernel) ⟨Nat.le_of_ble_eq_true rfl, Nat.le_of_ble_eq_true rfl⟩) ⟨fun a U g mk q => ⟨q.1, q.2.1, q.2.2.1, va_K.moved (u := U) (U := U.calling g mk a) (Vm.Alike.refl U.vm) q.2.2.2⟩, va_recv hK hP (ci := 4) (q0 := 4) rfl Xa_4, fun U hU hW => ⟨rfl, by rw [hU], by rw [hU]; exact hP, va_K.moved hW.alike hK⟩⟩ rfl rfl hl.1 rfl (lv_room (Nat.le_of_ble_eq_true rfl)) d_Rows_countWaysBehind_83 ⟨Nat.le_of_ble_eq_true rfl, Nat.le_of_ble_eq_true rfl⟩) hS (fun q _ h => hAS _ hS.1 q h) (fun q h => hAS _ hS.1 q h) (fun u3 t H locs ht9 hvm hw hB hz1 hk1 hS => ?_)
                  obtain ⟨hP, hK9⟩ := hB
                  rw [ht9] at hP
                  rw [hw, Option.bind_some] at hf
                  refine lv_iinc (v := x4_3 + 1) (lv' := [(4, .int (x4_3 + 1)), (0, .ref (ad 4)), (1, .int a1), (2, .int x2_2), (3, .int r1)]) hx hb d_Rows_countWaysBehind_86 hl (k := 4) rfl rfl (by decide) rfl (fun ls hl => ?_)
                  refine lv_goto (tgt := 52) hx hb d_Rows_countWaysBehind_89 (by decide) ?_
                  exact ih (x4_3 + 1) u3 _ _ _ hP hS (lv_sub hl [1, 2, 3, 4, 0] rfl) (fun hn => hs (hf.symm.trans hn)) (fun v ho => hexit v (hf.symm.trans ho))
          refine lp52_3 FU (0 : Int32) Sx _ _ _ hP hS (lv_sub hl [2, 3, 4, 1, 0] rfl) (fun hn => ?_) (fun v8 hvv8 H locs ls hP hS hl => ?_)
          · rw [hn] at hf; exact hs hf.symm
          · rw [hvv8, Option.bind_some] at hf
            refine lv_iinc (v := x2_2 + 1) (lv' := [(2, .int (x2_2 + 1)), (0, .ref (ad 4)), (1, .int a1), (3, .int r1)]) hx hb d_Rows_countWaysBehind_92 hl (k := 2) rfl rfl (by decide) rfl (fun ls hl => ?_)
            refine lv_goto (tgt := 26) hx hb d_Rows_countWaysBehind_95 (by decide) ?_
            exact ih (x2_2 + 1) v8 _ _ _ hP hS (lv_sub hl [1, 2, 0] rfl) (fun hn => hs (hf.symm.trans hn)) (fun v ho => hexit v (hf.symm.trans ho))
    refine lp26_2 FU (0 : Int32) v4 _ _ _ hP hS (lv_sub hl [1, 2, 0] rfl) (fun hn => ?_) (fun v9 hvv9 H locs ls hP hS hl => ?_)
    · rw [hn] at hf; exact hs hf.symm
    · rw [hvv9, Option.bind_some] at hf
      rw [← hQ]
      exact W.vret hx hb hr (fun t ht hW => ⟨⟨v9, rfl, hf.symm, by rw [ht]; exact hP, va_K.moved hW.alike hK⟩, hS.F ht⟩) hS.2.2 d_Rows_countWaysBehind_98
set_option maxHeartbeats 4000000 in
set_option maxRecDepth 100000 in
theorem c_Rows_countWays (l : Launch) (D : va_G) (cA : Nat → ClassId) (ad : Nat → Nat) (hI : InjA ad) (sz : Nat) (a1 : Int32) (S : SS) (hs : f_Rows_countWays a1 S ≠ none) : Met l y_Rows_countWays w_Rows_countWays ({ frames := 4, cells := 0, slots := 0, locals := 93 }) (va_Pc [.ref (ad 4), .int a1] (fun U => U.heap.size = sz ∧ va_P D vwCl (X cA ad S) U.heap ∧ va_K D vwCl (tysX cA) U)) (va_Qv (fun (u : SS) => f_Rows_countWays a1 S = some u) (fun (u : SS) t => va_P D vwCl (X cA ad u) t.heap ∧ va_K D vwCl (tysX cA) t) (AS ad sz)) 0 0 (AS ad sz) := by
  refine Met.ofW (cc := b_Rows_countWays) (maxL := 5) (ret := none) (by decide) rfl ?_
  intro p e s m args below meth c s₁ B hml hv
  obtain ⟨rfl, hsz, hP, hK⟩ := hv
  have hx := B.exec
  have hb := B.bytes
  have hr := B.returns
  have hts := atoms_spec (ws := w_Rows_countWays) B.pre
  have ht := fun w h => hts w (List.mem_cons_of_mem _ h)
  have hown : s.vm.findClass R_Rows = some m.cls := findClass_of_methodNamed B.named
  have hlocks := B.notSynchronized
  subst hsz
  have hAd : ∀ q, q < NP → AS ad s.heap.size (ad q) := fun q h => Or.inl ⟨q, h, rfl⟩
  have hA : ∀ q : Nat, s.heap.size ≤ q → AS ad s.heap.size q := fun q h => Or.inr h
  have hAS : ∀ z : Nat, s.heap.size ≤ z → ∀ q : Nat, AS ad z q → AS ad s.heap.size q := fun z h q hq => hq.elim Or.inl (fun g => Or.inr (Nat.le_trans h g))
  generalize hAe : AS ad s.heap.size = A at hAd hA hAS ⊢
  have hS : va_S A s.heap s.heap [] := va_S.rf
  have hl := lv_entry ([.ref (ad 4), .int a1]) (n := 5) (Nat.le_of_ble_eq_true rfl)
  rw [lg_entry_eq]
  generalize (lg_sl ([.ref (ad 4), .int a1]) ++ List.replicate (5 - (lg_sl ([.ref (ad 4), .int a1])).length) Slot.unset).toArray = ls at hl ⊢
  have hl : lv_has ls 5 [(0, .ref (ad 4)), (1, .int a1)] := hl
  have hf := (f_Rows_countWays_s a1 S).symm
  generalize hQ : MQ below _ _ s _ _ _ = Q
  refine lv_aload_n hx hb d_Rows_countWays_0 rfl (lv_at hl 0 rfl) ?_
  refine va_get (D := D) (ci := 4) (v := .ref (ad 1)) (C := R_Rows) (T := T_Rows) (N := 3) hx hb ht i_Rows hown hK hP 4 Xa_4 rfl 0 (by decide) (ht _ mF_Rows_16) (fun _ h9 => h9) rfl d_Rows_countWays_1 ?_
  refine va_get (D := D) (ci := 1) (v := .int (S.1 1 0)) (C := R_Law) (T := T_Law) (N := 5) hx hb ht i_Law hown hK hP 1 Xa_1 rfl 0 (by decide) (ht _ mF_Rows_57) (fun _ h9 => h9) rfl d_Rows_countWays_4 ?_
  refine lv_iconst (v := 1) hx hb d_Rows_countWays_7 (by decide) ?_
  refine lv_isub hx hb d_Rows_countWays_8 ?_
  refine lv_istore_n (lv' := [(2, .int ((S.1 1 0) - (1 : Int32))), (0, .ref (ad 4)), (1, .int a1)]) hx hb d_Rows_countWays_9 rfl hl (by decide) rfl (fun ls hl => ?_)
  refine lv_iconst (v := 0) hx hb d_Rows_countWays_10 (by decide) ?_
  refine lv_istore_n (lv' := [(3, .int (0 : Int32)), (2, .int ((S.1 1 0) - (1 : Int32))), (0, .ref (ad 4)), (1, .int a1)]) hx hb d_Rows_countWays_11 rfl hl (by decide) rfl (fun ls hl => ?_)
  have lp12_1 : ∀ (n : Nat) (x3_1 : Int32) (Sx : SS) (H : Heap) (locs : List Loc) (ls : Array Slot), va_P D vwCl (X cA ad Sx) H → va_S A s.heap H locs → lv_has ls 5 [(0, .ref (ad 4)), (1, .int a1), (2, .int ((S.1 1 0) - (1 : Int32))), (3, .int x3_1)] → f_Rows_countWays_L12 a1 ((S.1 1 0) - (1 : Int32)) n x3_1 Sx ≠ none →
      (∀ v : SS, f_Rows_countWays_L12 a1 ((S.1 1 0) - (1 : Int32)) n x3_1 Sx = some v → ∀ (H : Heap) (locs : List Loc) (ls : Array Slot), va_P D vwCl (X cA ad v) H → va_S A s.heap H locs → lv_has ls 5 [(0, .ref (ad 4)), (1, .int a1), (2, .int ((S.1 1 0) - (1 : Int32)))] → W p l e (headSpec w_Rows_countWays ({ frames := 4, cells := 0, slots := 0, locals := 93 })).room s m ([.ref (ad 4), .int a1] : List Value).toArray below meth c H locs 0 0 Q (F0 m 69 ls [])) →
      W p l e (headSpec w_Rows_countWays ({ frames := 4, cells := 0, slots := 0, locals := 93 })).room s m ([.ref (ad 4), .int a1] : List Value).toArray below meth c H locs 0 0 Q (F0 m 12 ls []) := by
    intro n
    induction n with
    | zero => intro x3_1 Sx H locs ls hP hS hl hs; exact absurd rfl hs
    | succ n ih =>
      intro x3_1 Sx H locs ls hP hS hl hs hexit
      have hf := (f_Rows_countWays_L12_s a1 ((S.1 1 0) - (1 : Int32)) n x3_1 Sx).symm
      refine lv_iload_n hx hb d_Rows_countWays_12 rfl (lv_at hl 3 rfl) ?_
      refine lv_aload_n hx hb d_Rows_countWays_13 rfl (lv_at hl 0 rfl) ?_
      refine va_get (D := D) (ci := 4) (v := .ref (ad 1)) (C := R_Rows) (T := T_Rows) (N := 3) hx hb ht i_Rows hown hK hP 4 Xa_4 rfl 0 (by decide) (ht _ mF_Rows_16) (fun _ h9 => h9) rfl d_Rows_countWays_14 ?_
      refine va_get (D := D) (ci := 1) (v := .int (Sx.1 1 1)) (C := R_Law) (T := T_Law) (N := 5) hx hb ht i_Law hown hK hP 1 Xa_1 rfl 1 (by decide) (ht _ mF_Rows_28) (fun _ h9 => h9) rfl d_Rows_countWays_17 ?_
      refine lv_icmp_ge (tgt := 69) hx hb d_Rows_countWays_20 (by decide) (fun c1 => ?_) (fun c1 => ?_)
      · rw [if_pos c1] at hf
        exact hexit _ hf.symm _ _ _ hP hS (lv_sub hl [0, 1, 2] rfl)
      · rw [if_neg c1] at hf
        refine lv_iconst (v := 0) hx hb d_Rows_countWays_23 (by decide) ?_
        refine lv_istore (lv' := [(4, .int (0 : Int32)), (0, .ref (ad 4)), (1, .int a1), (2, .int ((S.1 1 0) - (1 : Int32))), (3, .int x3_1)]) hx hb d_Rows_countWays_24 hl (by decide) rfl (fun ls hl => ?_)
        have lp26_2 : ∀ (n : Nat) (x4_2 : Int32) (Sx : SS) (H : Heap) (locs : List Loc) (ls : Array Slot), va_P D vwCl (X cA ad Sx) H → va_S A s.heap H locs → lv_has ls 5 [(0, .ref (ad 4)), (1, .int a1), (2, .int ((S.1 1 0) - (1 : Int32))), (3, .int x3_1), (4, .int x4_2)] → f_Rows_countWays_L26 a1 ((S.1 1 0) - (1 : Int32)) x3_1 n x4_2 Sx ≠ none →
            (∀ v : SS, f_Rows_countWays_L26 a1 ((S.1 1 0) - (1 : Int32)) x3_1 n x4_2 Sx = some v → ∀ (H : Heap) (locs : List Loc) (ls : Array Slot), va_P D vwCl (X cA ad v) H → va_S A s.heap H locs → lv_has ls 5 [(0, .ref (ad 4)), (1, .int a1), (2, .int ((S.1 1 0) - (1 : Int32))), (3, .int x3_1)] → W p l e (headSpec w_Rows_countWays ({ frames := 4, cells := 0, slots := 0, locals := 93 })).room s m ([.ref (ad 4), .int a1] : List Value).toArray below meth c H locs 0 0 Q (F0 m 63 ls [])) →
            W p l e (headSpec w_Rows_countWays ({ frames := 4, cells := 0, slots := 0, locals := 93 })).room s m ([.ref (ad 4), .int a1] : List Value).toArray below meth c H locs 0 0 Q (F0 m 26 ls []) := by
          intro n
          induction n with
          | zero => intro x4_2 Sx H locs ls hP hS hl hs; exact absurd rfl hs
          | succ n ih =>
            intro x4_2 Sx H locs ls hP hS hl hs hexit
            have hf := (f_Rows_countWays_L26_s a1 ((S.1 1 0) - (1 : Int32)) x3_1 n x4_2 Sx).symm
            refine lv_iload hx hb d_Rows_countWays_26 (lv_at hl 4 rfl) ?_
            refine lv_bipush (v := 64) hx hb d_Rows_countWays_28 (by decide) ?_
            refine lv_icmp_ge (tgt := 63) hx hb d_Rows_countWays_30 (by decide) (fun c2 => ?_) (fun c2 => ?_)
            · rw [if_pos c2] at hf
              exact hexit _ hf.symm _ _ _ hP hS (lv_sub hl [0, 1, 2, 3] rfl)
            · rw [if_neg c2] at hf
              refine lv_aload_n hx hb d_Rows_countWays_33 rfl (lv_at hl 0 rfl) ?_
              refine va_get (D := D) (ci := 4) (v := .ref (ad 9)) (C := R_Rows) (T := T_Rows) (N := 3) hx hb ht i_Rows hown hK hP 4 Xa_4 rfl 2 (by decide) (ht _ mF_Rows_11) (fun _ h9 => h9) rfl d_Rows_countWays_34 ?_
              refine lv_iload_n hx hb d_Rows_countWays_37 rfl (lv_at hl 2 rfl) ?_
              by_cases b3 : oob ((S.1 1 0) - (1 : Int32)) 6
              · rw [if_pos b3] at hf; exact absurd hf.symm hs
              rw [if_neg b3] at hf
              refine gz_aald hx hb hK hP 9 2 Xa_9 rfl b3 d_Rows_countWays_38 ?_
              rw [X_row b3]
              refine lv_iload_n hx hb d_Rows_countWays_39 rfl (lv_at hl 3 rfl) ?_
              refine lv_iload hx hb d_Rows_countWays_40 (lv_at hl 4 rfl) ?_
              refine va_calli (va_runS (As := [.int x3_1, .int x4_2]) (rest := [.ref (ad (27 + ((S.1 1 0) - (1 : Int32)).toNatClampNeg))]) ⟨hx, hb, hml, hown, ht⟩ (c_Rows_state l D cA ad hI H.size x3_1 x4_2 Sx (fun hn => hs (by rw [hn] at hf; exact hf.symm))) (va_cwS 2 ht (good_G (gS mM_Rows_40 mS_Rows_state mN_Rows mk_Rows_state)) rfl rfl rfl (by decide +kernel) ⟨Nat.le_of_ble_eq_true rfl, Nat.le_of_ble_eq_true rfl⟩) ⟨fun a U g mk q => ⟨q.1, q.2.1, q.2.2.1, va_K.moved (u := U) (U := U.calling g mk a) (Vm.Alike.refl U.vm) q.2.2.2⟩, fun U hU hW => ⟨rfl, by rw [hU], by rw [hU]; exact hP, va_K.moved hW.alike hK⟩⟩ rfl rfl hl.1 rfl (lv_room (Nat.le_of_ble_eq_true rfl)) d_Rows_countWays_42 ⟨Nat.le_of_ble_eq_true rfl, Nat.le_of_ble_eq_true rfl⟩) hS (fun q _ h => hAS _ hS.1 q h) (fun q h => hAS _ hS.1 q h) (fun r1 _ t H locs ht9 hvm hw hB hz1 hk1 hS => ?_)
              obtain ⟨hP, hK9⟩ := hB
              rw [ht9] at hP
              rw [hw, Option.bind_some] at hf
              refine lv_iload hx hb d_Rows_countWays_45 (lv_at hl 4 rfl) ?_
              refine lv_iload_n hx hb d_Rows_countWays_47 rfl (lv_at hl 1 rfl) ?_
              refine lv_icmp_ne (tgt := 55) hx hb d_Rows_countWays_48 (by decide) (fun c4 => ?_) (fun c4 => ?_)
              · rw [if_neg c4] at hf
                refine lv_iconst (v := 0) hx hb d_Rows_countWays_55 (by decide) ?_
                by_cases b5 : oob r1 512
                · rw [if_pos b5] at hf; exact absurd hf.symm hs
                rw [if_neg b5] at hf
                refine va_iast hx hb hK hP (X_D hI hAd) hS (27 + ((S.1 1 0) - (1 : Int32)).toNatClampNeg) 0 (X_rowat9 b3) rfl b5 d_Rows_countWays_56 (fun H locs hP _ hS => ?_)
                replace hP := X_stI (X_rowlt9 b3) (X_rowcell9 b3) hP
                refine lv_iinc (v := x4_2 + 1) (lv' := [(4, .int (x4_2 + 1)), (0, .ref (ad 4)), (1, .int a1), (2, .int ((S.1 1 0) - (1 : Int32))), (3, .int x3_1)]) hx hb d_Rows_countWays_57 hl (k := 4) rfl rfl (by decide) rfl (fun ls hl => ?_)
                refine lv_goto (tgt := 26) hx hb d_Rows_countWays_60 (by decide) ?_
                exact ih (x4_2 + 1) (wI Sx (27 + ((S.1 1 0) - (1 : Int32)).toNatClampNeg) r1.toNatClampNeg (0 : Int32)) _ _ _ hP hS (lv_sub hl [1, 2, 3, 4, 0] rfl) (fun hn => hs (hf.symm.trans hn)) (fun v ho => hexit v (hf.symm.trans ho))
              · rw [if_pos c4] at hf
                refine lv_iconst (v := 1) hx hb d_Rows_countWays_51 (by decide) ?_
                refine lv_goto (tgt := 56) hx hb d_Rows_countWays_52 (by decide) ?_
                by_cases b6 : oob r1 512
                · rw [if_pos b6] at hf; exact absurd hf.symm hs
                rw [if_neg b6] at hf
                refine va_iast hx hb hK hP (X_D hI hAd) hS (27 + ((S.1 1 0) - (1 : Int32)).toNatClampNeg) 0 (X_rowat9 b3) rfl b6 d_Rows_countWays_56 (fun H locs hP _ hS => ?_)
                replace hP := X_stI (X_rowlt9 b3) (X_rowcell9 b3) hP
                refine lv_iinc (v := x4_2 + 1) (lv' := [(4, .int (x4_2 + 1)), (0, .ref (ad 4)), (1, .int a1), (2, .int ((S.1 1 0) - (1 : Int32))), (3, .int x3_1)]) hx hb d_Rows_countWays_57 hl (k := 4) rfl rfl (by decide) rfl (fun ls hl => ?_)
                refine lv_goto (tgt := 26) hx hb d_Rows_countWays_60 (by decide) ?_
                exact ih (x4_2 + 1) (wI Sx (27 + ((S.1 1 0) - (1 : Int32)).toNatClampNeg) r1.toNatClampNeg (1 : Int32)) _ _ _ hP hS (lv_sub hl [1, 2, 3, 4, 0] rfl) (fun hn => hs (hf.symm.trans hn)) (fun v ho => hexit v (hf.symm.trans ho))
        refine lp26_2 FU (0 : Int32) Sx _ _ _ hP hS (lv_sub hl [1, 2, 3, 4, 0] rfl) (fun hn => ?_) (fun v7 hvv7 H locs ls hP hS hl => ?_)
        · rw [hn] at hf; exact hs hf.symm
        · rw [hvv7, Option.bind_some] at hf
          refine lv_iinc (v := x3_1 + 1) (lv' := [(3, .int (x3_1 + 1)), (0, .ref (ad 4)), (1, .int a1), (2, .int ((S.1 1 0) - (1 : Int32)))]) hx hb d_Rows_countWays_63 hl (k := 3) rfl rfl (by decide) rfl (fun ls hl => ?_)
          refine lv_goto (tgt := 12) hx hb d_Rows_countWays_66 (by decide) ?_
          exact ih (x3_1 + 1) v7 _ _ _ hP hS (lv_sub hl [1, 2, 3, 0] rfl) (fun hn => hs (hf.symm.trans hn)) (fun v ho => hexit v (hf.symm.trans ho))
  refine lp12_1 FU (0 : Int32) S _ _ _ hP hS (lv_sub hl [2, 3, 1, 0] rfl) (fun hn => ?_) (fun v8 hvv8 H locs ls hP hS hl => ?_)
  · rw [hn] at hf; exact hs hf.symm
  · rw [hvv8, Option.bind_some] at hf
    refine lv_iload_n hx hb d_Rows_countWays_69 rfl (lv_at hl 2 rfl) ?_
    refine lv_iconst (v := 1) hx hb d_Rows_countWays_70 (by decide) ?_
    refine lv_isub hx hb d_Rows_countWays_71 ?_
    refine lv_istore_n (lv' := [(3, .int (((S.1 1 0) - (1 : Int32)) - (1 : Int32))), (0, .ref (ad 4)), (1, .int a1), (2, .int ((S.1 1 0) - (1 : Int32)))]) hx hb d_Rows_countWays_72 rfl hl (by decide) rfl (fun ls hl => ?_)
    have lp73_3 : ∀ (n : Nat) (x3_3 : Int32) (Sx : SS) (H : Heap) (locs : List Loc) (ls : Array Slot), va_P D vwCl (X cA ad Sx) H → va_S A s.heap H locs → lv_has ls 5 [(0, .ref (ad 4)), (3, .int x3_3)] → f_Rows_countWays_L73 n x3_3 Sx ≠ none →
        (∀ v : SS, f_Rows_countWays_L73 n x3_3 Sx = some v → ∀ (H : Heap) (locs : List Loc) (ls : Array Slot), va_P D vwCl (X cA ad v) H → va_S A s.heap H locs → lv_has ls 5 [(0, .ref (ad 4))] → W p l e (headSpec w_Rows_countWays ({ frames := 4, cells := 0, slots := 0, locals := 93 })).room s m ([.ref (ad 4), .int a1] : List Value).toArray below meth c H locs 0 0 Q (F0 m 88 ls [])) →
        W p l e (headSpec w_Rows_countWays ({ frames := 4, cells := 0, slots := 0, locals := 93 })).room s m ([.ref (ad 4), .int a1] : List Value).toArray below meth c H locs 0 0 Q (F0 m 73 ls []) := by
      intro n
      induction n with
      | zero => intro x3_3 Sx H locs ls hP hS hl hs; exact absurd rfl hs
      | succ n ih =>
        intro x3_3 Sx H locs ls hP hS hl hs hexit
        have hf := (f_Rows_countWays_L73_s n x3_3 Sx).symm
        refine lv_iload_n hx hb d_Rows_countWays_73 rfl (lv_at hl 1 rfl) ?_
        refine lv_if_lt (tgt := 88) hx hb d_Rows_countWays_74 (by decide) (fun c9 => ?_) (fun c9 => ?_)
        · rw [if_pos c9] at hf
          exact hexit _ hf.symm _ _ _ hP hS (lv_sub hl [0] rfl)
        · rw [if_neg c9] at hf
          refine lv_aload_n hx hb d_Rows_countWays_77 rfl (lv_at hl 0 rfl) ?_
          refine lv_iload_n hx hb d_Rows_countWays_78 rfl (lv_at hl 1 rfl) ?_
          refine va_callv (va_runV (As := [.int x3_3]) (rest := []) ⟨hx, hb, hml, hown, ht⟩ (c_Rows_countWaysBehind l D cA ad hI H.size x3_3 Sx (fun hn => hs (by rw [hn] at hf; exact hf.symm))) (cwV 1 ht (good_G (gV mM_Rows_72 mI_Rows_countWaysBehind mV_Rows_countWaysBehind mN_Rows mk_Rows_countWaysBehind)) rfl rfl rfl (by decide +kernel) ⟨Nat.le_of_ble_eq_true rfl, Nat.le_of_ble_eq_true rfl⟩) ⟨fun a U g mk q => ⟨q.1, q.2.1, q.2.2.1, va_K.moved (u := U) (U := U.calling g mk a) (Vm.Alike.refl U.vm) q.2.2.2⟩, va_recv hK hP (ci := 4) (q0 := 4) rfl Xa_4, fun U hU hW => ⟨rfl, by rw [hU], by rw [hU]; exact hP, va_K.moved hW.alike hK⟩⟩ rfl rfl hl.1 rfl (lv_room (Nat.le_of_ble_eq_true rfl)) d_Rows_countWays_79 ⟨Nat.le_of_ble_eq_true rfl, Nat.le_of_ble_eq_true rfl⟩) hS (fun q _ h => hAS _ hS.1 q h) (fun q h => hAS _ hS.1 q h) (fun u2 t H locs ht9 hvm hw hB hz1 hk1 hS => ?_)
          obtain ⟨hP, hK9⟩ := hB
          rw [ht9] at hP
          rw [hw, Option.bind_some] at hf
          refine lv_iinc (v := x3_3 + (-1)) (lv' := [(3, .int (x3_3 + (-1))), (0, .ref (ad 4))]) hx hb d_Rows_countWays_82 hl (k := 1) rfl rfl (by decide) rfl (fun ls hl => ?_)
          refine lv_goto (tgt := 73) hx hb d_Rows_countWays_85 (by decide) ?_
          exact ih (x3_3 + (-1)) u2 _ _ _ hP hS (lv_sub hl [1, 0] rfl) (fun hn => hs (hf.symm.trans hn)) (fun v ho => hexit v (hf.symm.trans ho))
    refine lp73_3 FU (((S.1 1 0) - (1 : Int32)) - (1 : Int32)) v8 _ _ _ hP hS (lv_sub hl [1, 0] rfl) (fun hn => ?_) (fun v10 hvv10 H locs ls hP hS hl => ?_)
    · rw [hn] at hf; exact hs hf.symm
    · rw [hvv10, Option.bind_some] at hf
      rw [← hQ]
      exact W.vret hx hb hr (fun t ht hW => ⟨⟨v10, rfl, hf.symm, by rw [ht]; exact hP, va_K.moved hW.alike hK⟩, hS.F ht⟩) hS.2.2 d_Rows_countWays_88
set_option maxHeartbeats 4000000 in
set_option maxRecDepth 100000 in
theorem c_Rows_countFree (l : Launch) (D : va_G) (cA : Nat → ClassId) (ad : Nat → Nat) (hI : InjA ad) (sz : Nat) (a1 : Int32) (S : SS) (hs : f_Rows_countFree a1 S ≠ none) : Met l y_Rows_countFree w_Rows_countFree ({ frames := 5, cells := 0, slots := 0, locals := 117 }) (va_Pc [.ref (ad 4), .int a1] (fun U => U.heap.size = sz ∧ va_P D vwCl (X cA ad S) U.heap ∧ va_K D vwCl (tysX cA) U)) (va_Qi (fun (r : Int32) (u : SS) => f_Rows_countFree a1 S = some (r, u)) (fun (u : SS) t => va_P D vwCl (X cA ad u) t.heap ∧ va_K D vwCl (tysX cA) t) (AS ad sz)) 0 0 (AS ad sz) := by
  refine Met.ofW (cc := b_Rows_countFree) (maxL := 4) (ret := (some .int)) (by decide) rfl ?_
  intro p e s m args below meth c s₁ B hml hv
  obtain ⟨rfl, hsz, hP, hK⟩ := hv
  have hx := B.exec
  have hb := B.bytes
  have hr := B.returns
  have hts := atoms_spec (ws := w_Rows_countFree) B.pre
  have ht := fun w h => hts w (List.mem_cons_of_mem _ h)
  have hown : s.vm.findClass R_Rows = some m.cls := findClass_of_methodNamed B.named
  have hlocks := B.notSynchronized
  subst hsz
  have hAd : ∀ q, q < NP → AS ad s.heap.size (ad q) := fun q h => Or.inl ⟨q, h, rfl⟩
  have hA : ∀ q : Nat, s.heap.size ≤ q → AS ad s.heap.size q := fun q h => Or.inr h
  have hAS : ∀ z : Nat, s.heap.size ≤ z → ∀ q : Nat, AS ad z q → AS ad s.heap.size q := fun z h q hq => hq.elim Or.inl (fun g => Or.inr (Nat.le_trans h g))
  generalize hAe : AS ad s.heap.size = A at hAd hA hAS ⊢
  have hS : va_S A s.heap s.heap [] := va_S.rf
  have hl := lv_entry ([.ref (ad 4), .int a1]) (n := 4) (Nat.le_of_ble_eq_true rfl)
  rw [lg_entry_eq]
  generalize (lg_sl ([.ref (ad 4), .int a1]) ++ List.replicate (4 - (lg_sl ([.ref (ad 4), .int a1])).length) Slot.unset).toArray = ls at hl ⊢
  have hl : lv_has ls 4 [(0, .ref (ad 4)), (1, .int a1)] := hl
  have hf := (f_Rows_countFree_s a1 S).symm
  generalize hQ : MQ below _ _ s _ _ _ = Q
  refine lv_aload_n hx hb d_Rows_countFree_0 rfl (lv_at hl 0 rfl) ?_
  refine lv_iload_n hx hb d_Rows_countFree_1 rfl (lv_at hl 1 rfl) ?_
  refine va_callv (va_runV (As := [.int a1]) (rest := []) ⟨hx, hb, hml, hown, ht⟩ (c_Rows_countWays l D cA ad hI s.heap.size a1 S (fun hn => hs (by rw [hn] at hf; exact hf.symm))) (cwV 1 ht (good_G (gV mM_Rows_24 mI_Rows_countWays mV_Rows_countWays mN_Rows mk_Rows_countWays)) rfl rfl rfl (by decide +kernel) ⟨Nat.le_of_ble_eq_true rfl, Nat.le_of_ble_eq_true rfl⟩) ⟨fun a U g mk q => ⟨q.1, q.2.1, q.2.2.1, va_K.moved (u := U) (U := U.calling g mk a) (Vm.Alike.refl U.vm) q.2.2.2⟩, va_recv hK hP (ci := 4) (q0 := 4) rfl Xa_4, fun U hU hW => ⟨rfl, by rw [hU], by rw [hU]; exact hP, va_K.moved hW.alike hK⟩⟩ rfl rfl hl.1 rfl (lv_room (Nat.le_of_ble_eq_true rfl)) d_Rows_countFree_2 ⟨Nat.le_of_ble_eq_true rfl, Nat.le_of_ble_eq_true rfl⟩) hS (fun q _ h => hAS _ hS.1 q h) (fun q h => hAS _ hS.1 q h) (fun u1 t H locs ht9 hvm hw hB hz1 hk1 hS => ?_)
  obtain ⟨hP, hK9⟩ := hB
  rw [ht9] at hP
  rw [hw, Option.bind_some] at hf
  refine lv_iconst (v := 0) hx hb d_Rows_countFree_5 (by decide) ?_
  refine lv_istore_n (lv' := [(2, .int (0 : Int32)), (0, .ref (ad 4)), (1, .int a1)]) hx hb d_Rows_countFree_6 rfl hl (by decide) rfl (fun ls hl => ?_)
  refine lv_iconst (v := 0) hx hb d_Rows_countFree_7 (by decide) ?_
  refine lv_istore_n (lv' := [(3, .int (0 : Int32)), (2, .int (0 : Int32)), (0, .ref (ad 4)), (1, .int a1)]) hx hb d_Rows_countFree_8 rfl hl (by decide) rfl (fun ls hl => ?_)
  have lp9_1 : ∀ (n : Nat) (x2_1 : Int32) (x3_1 : Int32) (H : Heap) (locs : List Loc) (ls : Array Slot), va_P D vwCl (X cA ad u1) H → va_S A s.heap H locs → lv_has ls 4 [(0, .ref (ad 4)), (1, .int a1), (2, .int x2_1), (3, .int x3_1)] → f_Rows_countFree_L9 a1 n x2_1 x3_1 u1 ≠ none →
      (∀ v : Int32, f_Rows_countFree_L9 a1 n x2_1 x3_1 u1 = some v → ∀ (H : Heap) (locs : List Loc) (ls : Array Slot), va_P D vwCl (X cA ad u1) H → va_S A s.heap H locs → lv_has ls 4 [(0, .ref (ad 4)), (1, .int a1), (2, .int v)] → W p l e (headSpec w_Rows_countFree ({ frames := 5, cells := 0, slots := 0, locals := 117 })).room s m ([.ref (ad 4), .int a1] : List Value).toArray below meth c H locs 0 0 Q (F0 m 49 ls [])) →
      W p l e (headSpec w_Rows_countFree ({ frames := 5, cells := 0, slots := 0, locals := 117 })).room s m ([.ref (ad 4), .int a1] : List Value).toArray below meth c H locs 0 0 Q (F0 m 9 ls []) := by
    intro n
    induction n with
    | zero => intro x2_1 x3_1 H locs ls hP hS hl hs; exact absurd rfl hs
    | succ n ih =>
      intro x2_1 x3_1 H locs ls hP hS hl hs hexit
      have hf := (f_Rows_countFree_L9_s a1 n x2_1 x3_1 u1).symm
      refine lv_iload_n hx hb d_Rows_countFree_9 rfl (lv_at hl 3 rfl) ?_
      refine lv_aload_n hx hb d_Rows_countFree_10 rfl (lv_at hl 0 rfl) ?_
      refine va_get (D := D) (ci := 4) (v := .ref (ad 1)) (C := R_Rows) (T := T_Rows) (N := 3) hx hb ht i_Rows hown hK hP 4 Xa_4 rfl 0 (by decide) (ht _ mF_Rows_16) (fun _ h9 => h9) rfl d_Rows_countFree_11 ?_
      refine va_get (D := D) (ci := 1) (v := .int (u1.1 1 1)) (C := R_Law) (T := T_Law) (N := 5) hx hb ht i_Law hown hK hP 1 Xa_1 rfl 1 (by decide) (ht _ mF_Rows_28) (fun _ h9 => h9) rfl d_Rows_countFree_14 ?_
      refine lv_icmp_ge (tgt := 49) hx hb d_Rows_countFree_17 (by decide) (fun c1 => ?_) (fun c1 => ?_)
      · rw [if_pos c1] at hf
        exact hexit _ hf.symm _ _ _ hP hS (lv_sub hl [0, 1, 2] rfl)
      · rw [if_neg c1] at hf
        refine lv_iload_n hx hb d_Rows_countFree_20 rfl (lv_at hl 2 rfl) ?_
        refine lv_aload_n hx hb d_Rows_countFree_21 rfl (lv_at hl 0 rfl) ?_
        refine va_get (D := D) (ci := 4) (v := .ref (ad 9)) (C := R_Rows) (T := T_Rows) (N := 3) hx hb ht i_Rows hown hK hP 4 Xa_4 rfl 2 (by decide) (ht _ mF_Rows_11) (fun _ h9 => h9) rfl d_Rows_countFree_22 ?_
        refine lv_iconst (v := 0) hx hb d_Rows_countFree_25 (by decide) ?_
        by_cases b2 : oob (0 : Int32) 6
        · rw [if_pos b2] at hf; exact absurd hf.symm hs
        rw [if_neg b2] at hf
        refine gz_aald hx hb hK hP 9 2 Xa_9 rfl b2 d_Rows_countFree_26 ?_
        rw [X_row b2]
        refine lv_iload_n hx hb d_Rows_countFree_27 rfl (lv_at hl 3 rfl) ?_
        refine lv_aload_n hx hb d_Rows_countFree_28 rfl (lv_at hl 0 rfl) ?_
        refine va_get (D := D) (ci := 4) (v := .ref (ad 2)) (C := R_Rows) (T := T_Rows) (N := 3) hx hb ht i_Rows hown hK hP 4 Xa_4 rfl 1 (by decide) (ht _ mF_Rows_20) (fun _ h9 => h9) rfl d_Rows_countFree_29 ?_
        refine lv_iconst (v := 0) hx hb d_Rows_countFree_32 (by decide) ?_
        refine lv_iload_n hx hb d_Rows_countFree_33 rfl (lv_at hl 3 rfl) ?_
        refine va_calli (va_runV (As := [.int (0 : Int32), .int x3_1]) (rest := [.int x3_1, .ref (ad (27 + (0 : Int32).toNatClampNeg)), .int x2_1]) ⟨hx, hb, hml, hown, ht⟩ (c_Board_doorsHolding l D cA ad hI H.size (0 : Int32) x3_1 u1 (fun hn => hs (by rw [hn] at hf; exact hf.symm))) (cwV 2 ht (good_G (gV mM_Rows_34 mI_Board_doorsHolding mV_Board_doorsHolding mN_Board mk_Board_doorsHolding)) rfl rfl rfl (by decide +kernel) ⟨Nat.le_of_ble_eq_true rfl, Nat.le_of_ble_eq_true rfl⟩) ⟨fun a U g mk q => ⟨q.1, q.2.1, q.2.2.1, va_K.moved (u := U) (U := U.calling g mk a) (Vm.Alike.refl U.vm) q.2.2.2⟩, va_recv hK hP (ci := 2) (q0 := 2) rfl Xa_2, fun U hU hW => ⟨rfl, by rw [hU], by rw [hU]; exact hP, va_K.moved hW.alike hK⟩⟩ rfl rfl hl.1 rfl (lv_room (Nat.le_of_ble_eq_true rfl)) d_Rows_countFree_34 ⟨Nat.le_of_ble_eq_true rfl, Nat.le_of_ble_eq_true rfl⟩) hS (fun q _ h => hAS _ hS.1 q h) (fun q h => hAS _ hS.1 q h) (fun r2 _ t H locs ht9 hvm hw hB hz1 hk1 hS => ?_)
        obtain ⟨hP, hK9⟩ := hB
        rw [ht9] at hP
        rw [hw, Option.bind_some] at hf
        refine va_calli (va_runS (As := [.int x3_1, .int r2]) (rest := [.ref (ad (27 + (0 : Int32).toNatClampNeg)), .int x2_1]) ⟨hx, hb, hml, hown, ht⟩ (c_Rows_state l D cA ad hI H.size x3_1 r2 u1 (fun hn => hs (by rw [hn] at hf; exact hf.symm))) (va_cwS 2 ht (good_G (gS mM_Rows_40 mS_Rows_state mN_Rows mk_Rows_state)) rfl rfl rfl (by decide +kernel) ⟨Nat.le_of_ble_eq_true rfl, Nat.le_of_ble_eq_true rfl⟩) ⟨fun a U g mk q => ⟨q.1, q.2.1, q.2.2.1, va_K.moved (u := U) (U := U.calling g mk a) (Vm.Alike.refl U.vm) q.2.2.2⟩, fun U hU hW => ⟨rfl, by rw [hU], by rw [hU]; exact hP, va_K.moved hW.alike hK⟩⟩ rfl rfl hl.1 rfl (lv_room (Nat.le_of_ble_eq_true rfl)) d_Rows_countFree_37 ⟨Nat.le_of_ble_eq_true rfl, Nat.le_of_ble_eq_true rfl⟩) hS (fun q _ h => hAS _ hS.1 q h) (fun q h => hAS _ hS.1 q h) (fun r3 _ t H locs ht9 hvm hw hB hz1 hk1 hS => ?_)
        obtain ⟨hP, hK9⟩ := hB
        rw [ht9] at hP
        rw [hw, Option.bind_some] at hf
        by_cases b3 : oob r3 512
        · rw [if_pos b3] at hf; exact absurd hf.symm hs
        rw [if_neg b3] at hf
        refine va_iald (f := u1.1 (27 + (0 : Int32).toNatClampNeg)) hx hb hK hP (27 + (0 : Int32).toNatClampNeg) 0 (X_rowat9 b2) rfl b3 d_Rows_countFree_40 ?_
        refine lv_iadd hx hb d_Rows_countFree_41 ?_
        refine lv_istore_n (lv' := [(2, .int (x2_1 + (u1.1 (27 + (0 : Int32).toNatClampNeg) r3.toNatClampNeg))), (0, .ref (ad 4)), (1, .int a1), (3, .int x3_1)]) hx hb d_Rows_countFree_42 rfl hl (by decide) rfl (fun ls hl => ?_)
        refine lv_iinc (v := x3_1 + 1) (lv' := [(3, .int (x3_1 + 1)), (2, .int (x2_1 + (u1.1 (27 + (0 : Int32).toNatClampNeg) r3.toNatClampNeg))), (0, .ref (ad 4)), (1, .int a1)]) hx hb d_Rows_countFree_43 hl (k := 3) rfl rfl (by decide) rfl (fun ls hl => ?_)
        refine lv_goto (tgt := 9) hx hb d_Rows_countFree_46 (by decide) ?_
        exact ih (x2_1 + (u1.1 (27 + (0 : Int32).toNatClampNeg) r3.toNatClampNeg)) (x3_1 + 1) _ _ _ hP hS (lv_sub hl [2, 3, 1, 0] rfl) (fun hn => hs (hf.symm.trans hn)) (fun v ho => hexit v (hf.symm.trans ho))
  refine lp9_1 FU (0 : Int32) (0 : Int32) _ _ _ hP hS (lv_sub hl [2, 3, 1, 0] rfl) (fun hn => ?_) (fun v4 hvv4 H locs ls hP hS hl => ?_)
  · rw [hn] at hf; exact hs hf.symm
  · rw [hvv4, Option.bind_some] at hf
    refine lv_iload_n hx hb d_Rows_countFree_49 rfl (lv_at hl 2 rfl) ?_
    refine lv_aload_n hx hb d_Rows_countFree_50 rfl (lv_at hl 0 rfl) ?_
    refine va_get (D := D) (ci := 4) (v := .ref (ad 2)) (C := R_Rows) (T := T_Rows) (N := 3) hx hb ht i_Rows hown hK hP 4 Xa_4 rfl 1 (by decide) (ht _ mF_Rows_20) (fun _ h9 => h9) rfl d_Rows_countFree_51 ?_
    refine lv_lconst (v := 0) hx hb d_Rows_countFree_54 (by decide) ?_
    refine lv_iload_n hx hb d_Rows_countFree_55 rfl (lv_at hl 1 rfl) ?_
    refine va_calli (va_runV (As := [.long (0 : Int64), .int a1]) (rest := [.int v4]) ⟨hx, hb, hml, hown, ht⟩ (c_Board_countKeys l D cA ad hI H.size (0 : Int64) a1 u1 (fun hn => hs (by rw [hn] at hf; exact hf.symm))) (cwV 2 ht (good_G (gV mM_Rows_43 mI_Board_countKeys mV_Board_countKeys mN_Board mk_Board_countKeys)) rfl rfl rfl (by decide +kernel) ⟨Nat.le_of_ble_eq_true rfl, Nat.le_of_ble_eq_true rfl⟩) ⟨fun a U g mk q => ⟨q.1, q.2.1, q.2.2.1, va_K.moved (u := U) (U := U.calling g mk a) (Vm.Alike.refl U.vm) q.2.2.2⟩, va_recv hK hP (ci := 2) (q0 := 2) rfl Xa_2, fun U hU hW => ⟨rfl, by rw [hU], by rw [hU]; exact hP, va_K.moved hW.alike hK⟩⟩ rfl rfl hl.1 rfl (lv_room (Nat.le_of_ble_eq_true rfl)) d_Rows_countFree_56 ⟨Nat.le_of_ble_eq_true rfl, Nat.le_of_ble_eq_true rfl⟩) hS (fun q _ h => hAS _ hS.1 q h) (fun q h => hAS _ hS.1 q h) (fun r4 _ t H locs ht9 hvm hw hB hz1 hk1 hS => ?_)
    obtain ⟨hP, hK9⟩ := hB
    rw [ht9] at hP
    rw [hw, Option.bind_some] at hf
    refine lv_isub hx hb d_Rows_countFree_59 ?_
    rw [← hQ]
    exact W.iret (v := v4 - r4) hx hb hr (fun t ht hW => ⟨⟨v4 - r4, u1, rfl, hf.symm, by rw [ht]; exact hP, va_K.moved hW.alike hK⟩, hS.F ht⟩) hS.2.2 d_Rows_countFree_60
set_option maxHeartbeats 4000000 in
set_option maxRecDepth 100000 in
theorem c_Rows_leastDepth (l : Launch) (D : va_G) (cA : Nat → ClassId) (ad : Nat → Nat) (hI : InjA ad) (sz : Nat) (a1 : Int32) (a2 : Int32) (a3 : Int32) (a4 : Int64) (a6 : Int32) (S : SS) (hs : f_Rows_leastDepth a1 a2 a3 a4 a6 S ≠ none) : Met l y_Rows_leastDepth w_Rows_leastDepth ({ frames := 4, cells := 0, slots := 0, locals := 93 }) (va_Pc [.ref (ad 4), .int a1, .int a2, .int a3, .long a4, .int a6] (fun U => U.heap.size = sz ∧ va_P D vwCl (X cA ad S) U.heap ∧ va_K D vwCl (tysX cA) U)) (va_Qi (fun (r : Int32) (_ : Unit) => f_Rows_leastDepth a1 a2 a3 a4 a6 S = some r) (fun (_ : Unit) t => va_P D vwCl (X cA ad S) t.heap ∧ va_K D vwCl (tysX cA) t) (AS ad sz)) 0 0 (AS ad sz) := by
  refine Met.ofW (cc := b_Rows_leastDepth) (maxL := 10) (ret := (some .int)) (by decide) rfl ?_
  intro p e s m args below meth c s₁ B hml hv
  obtain ⟨rfl, hsz, hP, hK⟩ := hv
  have hx := B.exec
  have hb := B.bytes
  have hr := B.returns
  have hts := atoms_spec (ws := w_Rows_leastDepth) B.pre
  have ht := fun w h => hts w (List.mem_cons_of_mem _ h)
  have hown : s.vm.findClass R_Rows = some m.cls := findClass_of_methodNamed B.named
  have hlocks := B.notSynchronized
  subst hsz
  have hAd : ∀ q, q < NP → AS ad s.heap.size (ad q) := fun q h => Or.inl ⟨q, h, rfl⟩
  have hA : ∀ q : Nat, s.heap.size ≤ q → AS ad s.heap.size q := fun q h => Or.inr h
  have hAS : ∀ z : Nat, s.heap.size ≤ z → ∀ q : Nat, AS ad z q → AS ad s.heap.size q := fun z h q hq => hq.elim Or.inl (fun g => Or.inr (Nat.le_trans h g))
  generalize hAe : AS ad s.heap.size = A at hAd hA hAS ⊢
  have hS : va_S A s.heap s.heap [] := va_S.rf
  have hl := lv_entry ([.ref (ad 4), .int a1, .int a2, .int a3, .long a4, .int a6]) (n := 10) (Nat.le_of_ble_eq_true rfl)
  rw [lg_entry_eq]
  generalize (lg_sl ([.ref (ad 4), .int a1, .int a2, .int a3, .long a4, .int a6]) ++ List.replicate (10 - (lg_sl ([.ref (ad 4), .int a1, .int a2, .int a3, .long a4, .int a6])).length) Slot.unset).toArray = ls at hl ⊢
  have hl : lv_has ls 10 [(0, .ref (ad 4)), (1, .int a1), (2, .int a2), (3, .int a3), (4, .long a4), (6, .int a6)] := hl
  have hf := (f_Rows_leastDepth_s a1 a2 a3 a4 a6 S).symm
  generalize hQ : MQ below _ _ s _ _ _ = Q
  refine lv_iconst (v := 0) hx hb d_Rows_leastDepth_0 (by decide) ?_
  refine lv_istore (lv' := [(7, .int (0 : Int32)), (0, .ref (ad 4)), (1, .int a1), (2, .int a2), (3, .int a3), (4, .long a4), (6, .int a6)]) hx hb d_Rows_leastDepth_1 hl (by decide) rfl (fun ls hl => ?_)
  have lp3_1 : ∀ (n : Nat) (x7_1 : Int32) (H : Heap) (locs : List Loc) (ls : Array Slot), va_P D vwCl (X cA ad S) H → va_S A s.heap H locs → lv_has ls 10 [(0, .ref (ad 4)), (1, .int a1), (2, .int a2), (3, .int a3), (4, .long a4), (6, .int a6), (7, .int x7_1)] → f_Rows_leastDepth_L3 a1 a2 a3 a4 a6 n x7_1 S ≠ none →
      (∀ o : Int32, f_Rows_leastDepth_L3 a1 a2 a3 a4 a6 n x7_1 S = some (.inl o) → f_Rows_leastDepth a1 a2 a3 a4 a6 S = some o) →
      (∀ v : Unit, f_Rows_leastDepth_L3 a1 a2 a3 a4 a6 n x7_1 S = some (.inr v) → ∀ (H : Heap) (locs : List Loc) (ls : Array Slot), va_P D vwCl (X cA ad S) H → va_S A s.heap H locs → lv_has ls 10 [(0, .ref (ad 4)), (1, .int a1), (2, .int a2), (3, .int a3), (4, .long a4), (6, .int a6)] → W p l e (headSpec w_Rows_leastDepth ({ frames := 4, cells := 0, slots := 0, locals := 93 })).room s m ([.ref (ad 4), .int a1, .int a2, .int a3, .long a4, .int a6] : List Value).toArray below meth c H locs 0 0 Q (F0 m 95 ls [])) →
      W p l e (headSpec w_Rows_leastDepth ({ frames := 4, cells := 0, slots := 0, locals := 93 })).room s m ([.ref (ad 4), .int a1, .int a2, .int a3, .long a4, .int a6] : List Value).toArray below meth c H locs 0 0 Q (F0 m 3 ls []) := by
    intro n
    induction n with
    | zero => intro x7_1 H locs ls hP hS hl hs; exact absurd rfl hs
    | succ n ih =>
      intro x7_1 H locs ls hP hS hl hs hret hexit
      have hf := (f_Rows_leastDepth_L3_s a1 a2 a3 a4 a6 n x7_1 S).symm
      refine lv_iload hx hb d_Rows_leastDepth_3 (lv_at hl 6 rfl) ?_
      refine lv_aload_n hx hb d_Rows_leastDepth_5 rfl (lv_at hl 0 rfl) ?_
      refine va_get (D := D) (ci := 4) (v := .ref (ad 1)) (C := R_Rows) (T := T_Rows) (N := 3) hx hb ht i_Rows hown hK hP 4 Xa_4 rfl 0 (by decide) (ht _ mF_Rows_16) (fun _ h9 => h9) rfl d_Rows_leastDepth_6 ?_
      refine va_get (D := D) (ci := 1) (v := .int (S.1 1 1)) (C := R_Law) (T := T_Law) (N := 5) hx hb ht i_Law hown hK hP 1 Xa_1 rfl 1 (by decide) (ht _ mF_Rows_28) (fun _ h9 => h9) rfl d_Rows_leastDepth_9 ?_
      refine lv_icmp_ge (tgt := 95) hx hb d_Rows_leastDepth_12 (by decide) (fun c1 => ?_) (fun c1 => ?_)
      · rw [if_pos c1] at hf
        exact hexit _ hf.symm _ _ _ hP hS (lv_sub hl [0, 1, 2, 3, 4, 5] rfl)
      · rw [if_neg c1] at hf
        refine lv_iload_n hx hb d_Rows_leastDepth_15 rfl (lv_at hl 2 rfl) ?_
        refine lv_iconst (v := (-1)) hx hb d_Rows_leastDepth_16 (by decide) ?_
        refine lv_icmp_eq (tgt := 33) hx hb d_Rows_leastDepth_17 (by decide) (fun c2 => ?_) (fun c2 => ?_)
        · rw [if_pos c2] at hf
          refine lv_iload_n hx hb d_Rows_leastDepth_33 rfl (lv_at hl 3 rfl) ?_
          refine lv_aload_n hx hb d_Rows_leastDepth_34 rfl (lv_at hl 0 rfl) ?_
          refine va_get (D := D) (ci := 4) (v := .ref (ad 2)) (C := R_Rows) (T := T_Rows) (N := 3) hx hb ht i_Rows hown hK hP 4 Xa_4 rfl 1 (by decide) (ht _ mF_Rows_20) (fun _ h9 => h9) rfl d_Rows_leastDepth_35 ?_
          refine lv_iload_n hx hb d_Rows_leastDepth_38 rfl (lv_at hl 1 rfl) ?_
          refine lv_iload hx hb d_Rows_leastDepth_39 (lv_at hl 6 rfl) ?_
          refine va_calli (va_runV (As := [.int a1, .int x7_1]) (rest := [.int a3]) ⟨hx, hb, hml, hown, ht⟩ (c_Board_doorsHolding l D cA ad hI H.size a1 x7_1 S (fun hn => hs (by rw [hn] at hf; exact hf.symm))) (cwV 2 ht (good_G (gV mM_Rows_34 mI_Board_doorsHolding mV_Board_doorsHolding mN_Board mk_Board_doorsHolding)) rfl rfl rfl (by decide +kernel) ⟨Nat.le_of_ble_eq_true rfl, Nat.le_of_ble_eq_true rfl⟩) ⟨fun a U g mk q => ⟨q.1, q.2.1, q.2.2.1, va_K.moved (u := U) (U := U.calling g mk a) (Vm.Alike.refl U.vm) q.2.2.2⟩, va_recv hK hP (ci := 2) (q0 := 2) rfl Xa_2, fun U hU hW => ⟨rfl, by rw [hU], by rw [hU]; exact hP, va_K.moved hW.alike hK⟩⟩ rfl rfl hl.1 rfl (lv_room (Nat.le_of_ble_eq_true rfl)) d_Rows_leastDepth_41 ⟨Nat.le_of_ble_eq_true rfl, Nat.le_of_ble_eq_true rfl⟩) hS (fun q _ h => hAS _ hS.1 q h) (fun q h => hAS _ hS.1 q h) (fun r1 _ t H locs ht9 hvm hw hB hz1 hk1 hS => ?_)
          obtain ⟨hP, hK9⟩ := hB
          rw [ht9] at hP
          rw [hw, Option.bind_some] at hf
          refine lv_iand hx hb d_Rows_leastDepth_44 ?_
          refine lv_istore (lv' := [(8, .int (a3 &&& r1)), (0, .ref (ad 4)), (1, .int a1), (2, .int a2), (3, .int a3), (4, .long a4), (6, .int a6), (7, .int x7_1)]) hx hb d_Rows_leastDepth_45 hl (by decide) rfl (fun ls hl => ?_)
          refine lv_aload_n hx hb d_Rows_leastDepth_47 rfl (lv_at hl 1 rfl) ?_
          refine va_get (D := D) (ci := 4) (v := .ref (ad 2)) (C := R_Rows) (T := T_Rows) (N := 3) hx hb ht i_Rows hown hK hP 4 Xa_4 rfl 1 (by decide) (ht _ mF_Rows_20) (fun _ h9 => h9) rfl d_Rows_leastDepth_48 ?_
          refine lv_lload hx hb d_Rows_leastDepth_51 (lv_at hl 5 rfl) ?_
          refine lv_iload_n hx hb d_Rows_leastDepth_53 rfl (lv_at hl 2 rfl) ?_
          refine lv_iload hx hb d_Rows_leastDepth_54 (lv_at hl 7 rfl) ?_
          refine va_calll (va_runS (As := [.int a1, .int x7_1]) (rest := [.long a4, .ref (ad 2)]) ⟨hx, hb, hml, hown, ht⟩ (c_Board_bit l D cA ad hI H.size a1 x7_1 S (fun hn => hs (by rw [hn] at hf; exact hf.symm))) (va_cwS 2 ht (good_G (gS mM_Rows_64 mS_Board_bit mN_Board mk_Board_bit)) rfl rfl rfl (by decide +kernel) ⟨Nat.le_of_ble_eq_true rfl, Nat.le_of_ble_eq_true rfl⟩) ⟨fun a U g mk q => ⟨q.1, q.2.1, q.2.2.1, va_K.moved (u := U) (U := U.calling g mk a) (Vm.Alike.refl U.vm) q.2.2.2⟩, fun U hU hW => ⟨rfl, by rw [hU], by rw [hU]; exact hP, va_K.moved hW.alike hK⟩⟩ rfl rfl hl.1 rfl (lv_room (Nat.le_of_ble_eq_true rfl)) d_Rows_leastDepth_56 ⟨Nat.le_of_ble_eq_true rfl, Nat.le_of_ble_eq_true rfl⟩) hS (fun q _ h => hAS _ hS.1 q h) (fun q h => hAS _ hS.1 q h) (fun r2 _ t H locs ht9 hvm hw hB hz1 hk1 hS => ?_)
          obtain ⟨hP, hK9⟩ := hB
          rw [ht9] at hP
          rw [hw, Option.bind_some] at hf
          refine lv_lor hx hb d_Rows_leastDepth_59 ?_
          refine lv_iload hx hb d_Rows_leastDepth_60 (lv_at hl 6 rfl) ?_
          refine va_calli (va_runV (As := [.long (a4 ||| r2), .int a6]) (rest := []) ⟨hx, hb, hml, hown, ht⟩ (c_Board_countKeys l D cA ad hI H.size (a4 ||| r2) a6 S (fun hn => hs (by rw [hn] at hf; exact hf.symm))) (cwV 2 ht (good_G (gV mM_Rows_43 mI_Board_countKeys mV_Board_countKeys mN_Board mk_Board_countKeys)) rfl rfl rfl (by decide +kernel) ⟨Nat.le_of_ble_eq_true rfl, Nat.le_of_ble_eq_true rfl⟩) ⟨fun a U g mk q => ⟨q.1, q.2.1, q.2.2.1, va_K.moved (u := U) (U := U.calling g mk a) (Vm.Alike.refl U.vm) q.2.2.2⟩, va_recv hK hP (ci := 2) (q0 := 2) rfl Xa_2, fun U hU hW => ⟨rfl, by rw [hU], by rw [hU]; exact hP, va_K.moved hW.alike hK⟩⟩ rfl rfl hl.1 rfl (lv_room (Nat.le_of_ble_eq_true rfl)) d_Rows_leastDepth_62 ⟨Nat.le_of_ble_eq_true rfl, Nat.le_of_ble_eq_true rfl⟩) hS (fun q _ h => hAS _ hS.1 q h) (fun q h => hAS _ hS.1 q h) (fun r3 _ t H locs ht9 hvm hw hB hz1 hk1 hS => ?_)
          obtain ⟨hP, hK9⟩ := hB
          rw [ht9] at hP
          rw [hw, Option.bind_some] at hf
          refine lv_istore (lv' := [(9, .int r3), (8, .int (a3 &&& r1)), (0, .ref (ad 4)), (1, .int a1), (2, .int a2), (3, .int a3), (4, .long a4), (6, .int a6), (7, .int x7_1)]) hx hb d_Rows_leastDepth_65 hl (by decide) rfl (fun ls hl => ?_)
          refine lv_aload_n hx hb d_Rows_leastDepth_67 rfl (lv_at hl 2 rfl) ?_
          refine va_get (D := D) (ci := 4) (v := .ref (ad 9)) (C := R_Rows) (T := T_Rows) (N := 3) hx hb ht i_Rows hown hK hP 4 Xa_4 rfl 2 (by decide) (ht _ mF_Rows_11) (fun _ h9 => h9) rfl d_Rows_leastDepth_68 ?_
          refine lv_iload_n hx hb d_Rows_leastDepth_71 rfl (lv_at hl 3 rfl) ?_
          by_cases b3 : oob a1 6
          · rw [if_pos b3] at hf; exact absurd hf.symm hs
          rw [if_neg b3] at hf
          refine gz_aald hx hb hK hP 9 2 Xa_9 rfl b3 d_Rows_leastDepth_72 ?_
          rw [X_row b3]
          refine lv_iload hx hb d_Rows_leastDepth_73 (lv_at hl 8 rfl) ?_
          refine lv_iload hx hb d_Rows_leastDepth_75 (lv_at hl 1 rfl) ?_
          refine va_calli (va_runS (As := [.int x7_1, .int (a3 &&& r1)]) (rest := [.ref (ad (27 + a1.toNatClampNeg))]) ⟨hx, hb, hml, hown, ht⟩ (c_Rows_state l D cA ad hI H.size x7_1 (a3 &&& r1) S (fun hn => hs (by rw [hn] at hf; exact hf.symm))) (va_cwS 2 ht (good_G (gS mM_Rows_40 mS_Rows_state mN_Rows mk_Rows_state)) rfl rfl rfl (by decide +kernel) ⟨Nat.le_of_ble_eq_true rfl, Nat.le_of_ble_eq_true rfl⟩) ⟨fun a U g mk q => ⟨q.1, q.2.1, q.2.2.1, va_K.moved (u := U) (U := U.calling g mk a) (Vm.Alike.refl U.vm) q.2.2.2⟩, fun U hU hW => ⟨rfl, by rw [hU], by rw [hU]; exact hP, va_K.moved hW.alike hK⟩⟩ rfl rfl hl.1 rfl (lv_room (Nat.le_of_ble_eq_true rfl)) d_Rows_leastDepth_77 ⟨Nat.le_of_ble_eq_true rfl, Nat.le_of_ble_eq_true rfl⟩) hS (fun q _ h => hAS _ hS.1 q h) (fun q h => hAS _ hS.1 q h) (fun r4 _ t H locs ht9 hvm hw hB hz1 hk1 hS => ?_)
          obtain ⟨hP, hK9⟩ := hB
          rw [ht9] at hP
          rw [hw, Option.bind_some] at hf
          by_cases b4 : oob r4 512
          · rw [if_pos b4] at hf; exact absurd hf.symm hs
          rw [if_neg b4] at hf
          refine va_iald (f := S.1 (27 + a1.toNatClampNeg)) hx hb hK hP (27 + a1.toNatClampNeg) 0 (X_rowat9 b3) rfl b4 d_Rows_leastDepth_80 ?_
          refine lv_iload hx hb d_Rows_leastDepth_81 (lv_at hl 0 rfl) ?_
          refine lv_icmp_le (tgt := 89) hx hb d_Rows_leastDepth_83 (by decide) (fun c5 => ?_) (fun c5 => ?_)
          · rw [if_pos c5] at hf
            refine lv_iinc (v := x7_1 + 1) (lv' := [(7, .int (x7_1 + 1)), (9, .int r3), (8, .int (a3 &&& r1)), (0, .ref (ad 4)), (1, .int a1), (2, .int a2), (3, .int a3), (4, .long a4), (6, .int a6)]) hx hb d_Rows_leastDepth_89 hl (k := 8) rfl rfl (by decide) rfl (fun ls hl => ?_)
            refine lv_goto (tgt := 3) hx hb d_Rows_leastDepth_92 (by decide) ?_
            exact ih (x7_1 + 1) _ _ _ hP hS (lv_sub hl [3, 4, 5, 6, 7, 8, 0] rfl) (fun hn => hs (hf.symm.trans hn)) (fun o ho => hret o (hf.symm.trans ho)) (fun v ho => hexit v (hf.symm.trans ho))
          · rw [if_neg c5] at hf
            refine lv_iload hx hb d_Rows_leastDepth_86 (lv_at hl 8 rfl) ?_
            rw [← hQ]
            exact W.iret (v := x7_1) hx hb hr (fun t ht hW => ⟨⟨x7_1, (), rfl, hret _ hf.symm, by rw [ht]; exact hP, va_K.moved hW.alike hK⟩, hS.F ht⟩) hS.2.2 d_Rows_leastDepth_88
        · rw [if_neg c2] at hf
          refine lv_aload_n hx hb d_Rows_leastDepth_20 rfl (lv_at hl 0 rfl) ?_
          refine va_get (D := D) (ci := 4) (v := .ref (ad 1)) (C := R_Rows) (T := T_Rows) (N := 3) hx hb ht i_Rows hown hK hP 4 Xa_4 rfl 0 (by decide) (ht _ mF_Rows_16) (fun _ h9 => h9) rfl d_Rows_leastDepth_21 ?_
          refine lv_iload_n hx hb d_Rows_leastDepth_24 rfl (lv_at hl 2 rfl) ?_
          refine lv_iload hx hb d_Rows_leastDepth_25 (lv_at hl 6 rfl) ?_
          refine va_calli (va_runV (As := [.int a2, .int x7_1]) (rest := []) ⟨hx, hb, hml, hown, ht⟩ (c_Law_mayFollow l D cA ad hI H.size a2 x7_1 S (fun hn => hs (by rw [hn] at hf; exact hf.symm))) (cwV 2 ht (good_G (gV mM_Rows_68 mI_Law_mayFollow mV_Law_mayFollow mN_Law mk_Law_mayFollow)) rfl rfl rfl (by decide +kernel) ⟨Nat.le_of_ble_eq_true rfl, Nat.le_of_ble_eq_true rfl⟩) ⟨fun a U g mk q => ⟨q.1, q.2.1, q.2.2.1, va_K.moved (u := U) (U := U.calling g mk a) (Vm.Alike.refl U.vm) q.2.2.2⟩, va_recv hK hP (ci := 1) (q0 := 1) rfl Xa_1, fun U hU hW => ⟨rfl, by rw [hU], by rw [hU]; exact hP, va_K.moved hW.alike hK⟩⟩ rfl rfl hl.1 rfl (lv_room (Nat.le_of_ble_eq_true rfl)) d_Rows_leastDepth_27 ⟨Nat.le_of_ble_eq_true rfl, Nat.le_of_ble_eq_true rfl⟩) hS (fun q _ h => hAS _ hS.1 q h) (fun q h => hAS _ hS.1 q h) (fun r5 _ t H locs ht9 hvm hw hB hz1 hk1 hS => ?_)
          obtain ⟨hP, hK9⟩ := hB
          rw [ht9] at hP
          obtain ⟨hw, hz5⟩ := hw
          rw [hw, Option.bind_some] at hf
          refine lv_if_eq (tgt := 89) hx hb d_Rows_leastDepth_30 (by decide) (fun c6 => ?_) (fun c6 => ?_)
          · rw [if_pos c6] at hf
            refine lv_iinc (v := x7_1 + 1) (lv' := [(7, .int (x7_1 + 1)), (0, .ref (ad 4)), (1, .int a1), (2, .int a2), (3, .int a3), (4, .long a4), (6, .int a6)]) hx hb d_Rows_leastDepth_89 hl (k := 6) rfl rfl (by decide) rfl (fun ls hl => ?_)
            refine lv_goto (tgt := 3) hx hb d_Rows_leastDepth_92 (by decide) ?_
            exact ih (x7_1 + 1) _ _ _ hP hS (lv_sub hl [1, 2, 3, 4, 5, 6, 0] rfl) (fun hn => hs (hf.symm.trans hn)) (fun o ho => hret o (hf.symm.trans ho)) (fun v ho => hexit v (hf.symm.trans ho))
          · rw [if_neg c6] at hf
            refine lv_iload_n hx hb d_Rows_leastDepth_33 rfl (lv_at hl 3 rfl) ?_
            refine lv_aload_n hx hb d_Rows_leastDepth_34 rfl (lv_at hl 0 rfl) ?_
            refine va_get (D := D) (ci := 4) (v := .ref (ad 2)) (C := R_Rows) (T := T_Rows) (N := 3) hx hb ht i_Rows hown hK hP 4 Xa_4 rfl 1 (by decide) (ht _ mF_Rows_20) (fun _ h9 => h9) rfl d_Rows_leastDepth_35 ?_
            refine lv_iload_n hx hb d_Rows_leastDepth_38 rfl (lv_at hl 1 rfl) ?_
            refine lv_iload hx hb d_Rows_leastDepth_39 (lv_at hl 6 rfl) ?_
            refine va_calli (va_runV (As := [.int a1, .int x7_1]) (rest := [.int a3]) ⟨hx, hb, hml, hown, ht⟩ (c_Board_doorsHolding l D cA ad hI H.size a1 x7_1 S (fun hn => hs (by rw [hn] at hf; exact hf.symm))) (cwV 2 ht (good_G (gV mM_Rows_34 mI_Board_doorsHolding mV_Board_doorsHolding mN_Board mk_Board_doorsHolding)) rfl rfl rfl (by decide +kernel) ⟨Nat.le_of_ble_eq_true rfl, Nat.le_of_ble_eq_true rfl⟩) ⟨fun a U g mk q => ⟨q.1, q.2.1, q.2.2.1, va_K.moved (u := U) (U := U.calling g mk a) (Vm.Alike.refl U.vm) q.2.2.2⟩, va_recv hK hP (ci := 2) (q0 := 2) rfl Xa_2, fun U hU hW => ⟨rfl, by rw [hU], by rw [hU]; exact hP, va_K.moved hW.alike hK⟩⟩ rfl rfl hl.1 rfl (lv_room (Nat.le_of_ble_eq_true rfl)) d_Rows_leastDepth_41 ⟨Nat.le_of_ble_eq_true rfl, Nat.le_of_ble_eq_true rfl⟩) hS (fun q _ h => hAS _ hS.1 q h) (fun q h => hAS _ hS.1 q h) (fun r6 _ t H locs ht9 hvm hw hB hz1 hk1 hS => ?_)
            obtain ⟨hP, hK9⟩ := hB
            rw [ht9] at hP
            rw [hw, Option.bind_some] at hf
            refine lv_iand hx hb d_Rows_leastDepth_44 ?_
            refine lv_istore (lv' := [(8, .int (a3 &&& r6)), (0, .ref (ad 4)), (1, .int a1), (2, .int a2), (3, .int a3), (4, .long a4), (6, .int a6), (7, .int x7_1)]) hx hb d_Rows_leastDepth_45 hl (by decide) rfl (fun ls hl => ?_)
            refine lv_aload_n hx hb d_Rows_leastDepth_47 rfl (lv_at hl 1 rfl) ?_
            refine va_get (D := D) (ci := 4) (v := .ref (ad 2)) (C := R_Rows) (T := T_Rows) (N := 3) hx hb ht i_Rows hown hK hP 4 Xa_4 rfl 1 (by decide) (ht _ mF_Rows_20) (fun _ h9 => h9) rfl d_Rows_leastDepth_48 ?_
            refine lv_lload hx hb d_Rows_leastDepth_51 (lv_at hl 5 rfl) ?_
            refine lv_iload_n hx hb d_Rows_leastDepth_53 rfl (lv_at hl 2 rfl) ?_
            refine lv_iload hx hb d_Rows_leastDepth_54 (lv_at hl 7 rfl) ?_
            refine va_calll (va_runS (As := [.int a1, .int x7_1]) (rest := [.long a4, .ref (ad 2)]) ⟨hx, hb, hml, hown, ht⟩ (c_Board_bit l D cA ad hI H.size a1 x7_1 S (fun hn => hs (by rw [hn] at hf; exact hf.symm))) (va_cwS 2 ht (good_G (gS mM_Rows_64 mS_Board_bit mN_Board mk_Board_bit)) rfl rfl rfl (by decide +kernel) ⟨Nat.le_of_ble_eq_true rfl, Nat.le_of_ble_eq_true rfl⟩) ⟨fun a U g mk q => ⟨q.1, q.2.1, q.2.2.1, va_K.moved (u := U) (U := U.calling g mk a) (Vm.Alike.refl U.vm) q.2.2.2⟩, fun U hU hW => ⟨rfl, by rw [hU], by rw [hU]; exact hP, va_K.moved hW.alike hK⟩⟩ rfl rfl hl.1 rfl (lv_room (Nat.le_of_ble_eq_true rfl)) d_Rows_leastDepth_56 ⟨Nat.le_of_ble_eq_true rfl, Nat.le_of_ble_eq_true rfl⟩) hS (fun q _ h => hAS _ hS.1 q h) (fun q h => hAS _ hS.1 q h) (fun r7 _ t H locs ht9 hvm hw hB hz1 hk1 hS => ?_)
            obtain ⟨hP, hK9⟩ := hB
            rw [ht9] at hP
            rw [hw, Option.bind_some] at hf
            refine lv_lor hx hb d_Rows_leastDepth_59 ?_
            refine lv_iload hx hb d_Rows_leastDepth_60 (lv_at hl 6 rfl) ?_
            refine va_calli (va_runV (As := [.long (a4 ||| r7), .int a6]) (rest := []) ⟨hx, hb, hml, hown, ht⟩ (c_Board_countKeys l D cA ad hI H.size (a4 ||| r7) a6 S (fun hn => hs (by rw [hn] at hf; exact hf.symm))) (cwV 2 ht (good_G (gV mM_Rows_43 mI_Board_countKeys mV_Board_countKeys mN_Board mk_Board_countKeys)) rfl rfl rfl (by decide +kernel) ⟨Nat.le_of_ble_eq_true rfl, Nat.le_of_ble_eq_true rfl⟩) ⟨fun a U g mk q => ⟨q.1, q.2.1, q.2.2.1, va_K.moved (u := U) (U := U.calling g mk a) (Vm.Alike.refl U.vm) q.2.2.2⟩, va_recv hK hP (ci := 2) (q0 := 2) rfl Xa_2, fun U hU hW => ⟨rfl, by rw [hU], by rw [hU]; exact hP, va_K.moved hW.alike hK⟩⟩ rfl rfl hl.1 rfl (lv_room (Nat.le_of_ble_eq_true rfl)) d_Rows_leastDepth_62 ⟨Nat.le_of_ble_eq_true rfl, Nat.le_of_ble_eq_true rfl⟩) hS (fun q _ h => hAS _ hS.1 q h) (fun q h => hAS _ hS.1 q h) (fun r8 _ t H locs ht9 hvm hw hB hz1 hk1 hS => ?_)
            obtain ⟨hP, hK9⟩ := hB
            rw [ht9] at hP
            rw [hw, Option.bind_some] at hf
            refine lv_istore (lv' := [(9, .int r8), (8, .int (a3 &&& r6)), (0, .ref (ad 4)), (1, .int a1), (2, .int a2), (3, .int a3), (4, .long a4), (6, .int a6), (7, .int x7_1)]) hx hb d_Rows_leastDepth_65 hl (by decide) rfl (fun ls hl => ?_)
            refine lv_aload_n hx hb d_Rows_leastDepth_67 rfl (lv_at hl 2 rfl) ?_
            refine va_get (D := D) (ci := 4) (v := .ref (ad 9)) (C := R_Rows) (T := T_Rows) (N := 3) hx hb ht i_Rows hown hK hP 4 Xa_4 rfl 2 (by decide) (ht _ mF_Rows_11) (fun _ h9 => h9) rfl d_Rows_leastDepth_68 ?_
            refine lv_iload_n hx hb d_Rows_leastDepth_71 rfl (lv_at hl 3 rfl) ?_
            by_cases b7 : oob a1 6
            · rw [if_pos b7] at hf; exact absurd hf.symm hs
            rw [if_neg b7] at hf
            refine gz_aald hx hb hK hP 9 2 Xa_9 rfl b7 d_Rows_leastDepth_72 ?_
            rw [X_row b7]
            refine lv_iload hx hb d_Rows_leastDepth_73 (lv_at hl 8 rfl) ?_
            refine lv_iload hx hb d_Rows_leastDepth_75 (lv_at hl 1 rfl) ?_
            refine va_calli (va_runS (As := [.int x7_1, .int (a3 &&& r6)]) (rest := [.ref (ad (27 + a1.toNatClampNeg))]) ⟨hx, hb, hml, hown, ht⟩ (c_Rows_state l D cA ad hI H.size x7_1 (a3 &&& r6) S (fun hn => hs (by rw [hn] at hf; exact hf.symm))) (va_cwS 2 ht (good_G (gS mM_Rows_40 mS_Rows_state mN_Rows mk_Rows_state)) rfl rfl rfl (by decide +kernel) ⟨Nat.le_of_ble_eq_true rfl, Nat.le_of_ble_eq_true rfl⟩) ⟨fun a U g mk q => ⟨q.1, q.2.1, q.2.2.1, va_K.moved (u := U) (U := U.calling g mk a) (Vm.Alike.refl U.vm) q.2.2.2⟩, fun U hU hW => ⟨rfl, by rw [hU], by rw [hU]; exact hP, va_K.moved hW.alike hK⟩⟩ rfl rfl hl.1 rfl (lv_room (Nat.le_of_ble_eq_true rfl)) d_Rows_leastDepth_77 ⟨Nat.le_of_ble_eq_true rfl, Nat.le_of_ble_eq_true rfl⟩) hS (fun q _ h => hAS _ hS.1 q h) (fun q h => hAS _ hS.1 q h) (fun r9 _ t H locs ht9 hvm hw hB hz1 hk1 hS => ?_)
            obtain ⟨hP, hK9⟩ := hB
            rw [ht9] at hP
            rw [hw, Option.bind_some] at hf
            by_cases b8 : oob r9 512
            · rw [if_pos b8] at hf; exact absurd hf.symm hs
            rw [if_neg b8] at hf
            refine va_iald (f := S.1 (27 + a1.toNatClampNeg)) hx hb hK hP (27 + a1.toNatClampNeg) 0 (X_rowat9 b7) rfl b8 d_Rows_leastDepth_80 ?_
            refine lv_iload hx hb d_Rows_leastDepth_81 (lv_at hl 0 rfl) ?_
            refine lv_icmp_le (tgt := 89) hx hb d_Rows_leastDepth_83 (by decide) (fun c9 => ?_) (fun c9 => ?_)
            · rw [if_pos c9] at hf
              refine lv_iinc (v := x7_1 + 1) (lv' := [(7, .int (x7_1 + 1)), (9, .int r8), (8, .int (a3 &&& r6)), (0, .ref (ad 4)), (1, .int a1), (2, .int a2), (3, .int a3), (4, .long a4), (6, .int a6)]) hx hb d_Rows_leastDepth_89 hl (k := 8) rfl rfl (by decide) rfl (fun ls hl => ?_)
              refine lv_goto (tgt := 3) hx hb d_Rows_leastDepth_92 (by decide) ?_
              exact ih (x7_1 + 1) _ _ _ hP hS (lv_sub hl [3, 4, 5, 6, 7, 8, 0] rfl) (fun hn => hs (hf.symm.trans hn)) (fun o ho => hret o (hf.symm.trans ho)) (fun v ho => hexit v (hf.symm.trans ho))
            · rw [if_neg c9] at hf
              refine lv_iload hx hb d_Rows_leastDepth_86 (lv_at hl 8 rfl) ?_
              rw [← hQ]
              exact W.iret (v := x7_1) hx hb hr (fun t ht hW => ⟨⟨x7_1, (), rfl, hret _ hf.symm, by rw [ht]; exact hP, va_K.moved hW.alike hK⟩, hS.F ht⟩) hS.2.2 d_Rows_leastDepth_88
  refine lp3_1 FU (0 : Int32) _ _ _ hP hS (lv_sub hl [1, 2, 3, 4, 5, 6, 0] rfl) (fun hn => ?_) (fun o ho => ?_) (fun v10 hvv10 H locs ls hP hS hl => ?_)
  · rw [hn] at hf; exact hs hf.symm
  · rw [ho, Option.bind_some, Sum.elim_inl] at hf; exact hf.symm
  · rw [hvv10, Option.bind_some, Sum.elim_inr] at hf
    refine lv_iconst (v := (-1)) hx hb d_Rows_leastDepth_95 (by decide) ?_
    rw [← hQ]
    exact W.iret (v := (-1 : Int32)) hx hb hr (fun t ht hW => ⟨⟨(-1 : Int32), (), rfl, hf.symm, by rw [ht]; exact hP, va_K.moved hW.alike hK⟩, hS.F ht⟩) hS.2.2 d_Rows_leastDepth_96
set_option maxHeartbeats 4000000 in
set_option maxRecDepth 100000 in
theorem c_Rows_cutLeast (l : Launch) (D : va_G) (cA : Nat → ClassId) (ad : Nat → Nat) (hI : InjA ad) (sz : Nat) (a1 : Int32) (S : SS) (hs : f_Rows_cutLeast a1 S ≠ none) : Met l y_Rows_cutLeast w_Rows_cutLeast ({ frames := 5, cells := 0, slots := 0, locals := 122 }) (va_Pc [.ref (ad 4), .int a1] (fun U => U.heap.size = sz ∧ va_P D vwCl (X cA ad S) U.heap ∧ va_K D vwCl (tysX cA) U)) (va_Qi (fun (r : Int32) (u : SS) => f_Rows_cutLeast a1 S = some (r, u) ∧ (r = 0 ∨ r = 1)) (fun (u : SS) t => va_P D vwCl (X cA ad u) t.heap ∧ va_K D vwCl (tysX cA) t) (AS ad sz)) 0 0 (AS ad sz) := by
  refine Met.ofW (cc := b_Rows_cutLeast) (maxL := 9) (ret := (some .boolean)) (by decide) rfl ?_
  intro p e s m args below meth c s₁ B hml hv
  obtain ⟨rfl, hsz, hP, hK⟩ := hv
  have hx := B.exec
  have hb := B.bytes
  have hr := B.returns
  have hts := atoms_spec (ws := w_Rows_cutLeast) B.pre
  have ht := fun w h => hts w (List.mem_cons_of_mem _ h)
  have hown : s.vm.findClass R_Rows = some m.cls := findClass_of_methodNamed B.named
  have hlocks := B.notSynchronized
  subst hsz
  have hAd : ∀ q, q < NP → AS ad s.heap.size (ad q) := fun q h => Or.inl ⟨q, h, rfl⟩
  have hA : ∀ q : Nat, s.heap.size ≤ q → AS ad s.heap.size q := fun q h => Or.inr h
  have hAS : ∀ z : Nat, s.heap.size ≤ z → ∀ q : Nat, AS ad z q → AS ad s.heap.size q := fun z h q hq => hq.elim Or.inl (fun g => Or.inr (Nat.le_trans h g))
  generalize hAe : AS ad s.heap.size = A at hAd hA hAS ⊢
  have hS : va_S A s.heap s.heap [] := va_S.rf
  have hl := lv_entry ([.ref (ad 4), .int a1]) (n := 9) (Nat.le_of_ble_eq_true rfl)
  rw [lg_entry_eq]
  generalize (lg_sl ([.ref (ad 4), .int a1]) ++ List.replicate (9 - (lg_sl ([.ref (ad 4), .int a1])).length) Slot.unset).toArray = ls at hl ⊢
  have hl : lv_has ls 9 [(0, .ref (ad 4)), (1, .int a1)] := hl
  have hf := (f_Rows_cutLeast_s a1 S).symm
  generalize hQ : MQ below _ _ s _ _ _ = Q
  refine lv_aload_n hx hb d_Rows_cutLeast_0 rfl (lv_at hl 0 rfl) ?_
  refine lv_iload_n hx hb d_Rows_cutLeast_1 rfl (lv_at hl 1 rfl) ?_
  refine va_callv (va_runV (As := [.int a1]) (rest := []) ⟨hx, hb, hml, hown, ht⟩ (c_Rows_countWays l D cA ad hI s.heap.size a1 S (fun hn => hs (by rw [hn] at hf; exact hf.symm))) (cwV 1 ht (good_G (gV mM_Rows_24 mI_Rows_countWays mV_Rows_countWays mN_Rows mk_Rows_countWays)) rfl rfl rfl (by decide +kernel) ⟨Nat.le_of_ble_eq_true rfl, Nat.le_of_ble_eq_true rfl⟩) ⟨fun a U g mk q => ⟨q.1, q.2.1, q.2.2.1, va_K.moved (u := U) (U := U.calling g mk a) (Vm.Alike.refl U.vm) q.2.2.2⟩, va_recv hK hP (ci := 4) (q0 := 4) rfl Xa_4, fun U hU hW => ⟨rfl, by rw [hU], by rw [hU]; exact hP, va_K.moved hW.alike hK⟩⟩ rfl rfl hl.1 rfl (lv_room (Nat.le_of_ble_eq_true rfl)) d_Rows_cutLeast_2 ⟨Nat.le_of_ble_eq_true rfl, Nat.le_of_ble_eq_true rfl⟩) hS (fun q _ h => hAS _ hS.1 q h) (fun q h => hAS _ hS.1 q h) (fun u1 t H locs ht9 hvm hw hB hz1 hk1 hS => ?_)
  obtain ⟨hP, hK9⟩ := hB
  rw [ht9] at hP
  rw [hw, Option.bind_some] at hf
  refine lv_aload_n hx hb d_Rows_cutLeast_5 rfl (lv_at hl 0 rfl) ?_
  refine va_get (D := D) (ci := 4) (v := .ref (ad 2)) (C := R_Rows) (T := T_Rows) (N := 3) hx hb ht i_Rows hown hK hP 4 Xa_4 rfl 1 (by decide) (ht _ mF_Rows_20) (fun _ h9 => h9) rfl d_Rows_cutLeast_6 ?_
  refine va_get (D := D) (ci := 2) (v := .ref (ad 6)) (C := R_Board) (T := T_Board) (N := 7) hx hb ht i_Board hown hK hP 2 Xa_2 rfl 4 (by decide) (ht _ mF_Rows_47) (fun _ h9 => h9) rfl d_Rows_cutLeast_9 ?_
  refine lv_aload_n hx hb d_Rows_cutLeast_12 rfl (lv_at hl 0 rfl) ?_
  refine va_get (D := D) (ci := 4) (v := .ref (ad 2)) (C := R_Rows) (T := T_Rows) (N := 3) hx hb ht i_Rows hown hK hP 4 Xa_4 rfl 1 (by decide) (ht _ mF_Rows_20) (fun _ h9 => h9) rfl d_Rows_cutLeast_13 ?_
  refine va_get (D := D) (ci := 2) (v := .int (u1.1 2 1)) (C := R_Board) (T := T_Board) (N := 7) hx hb ht i_Board hown hK hP 2 Xa_2 rfl 1 (by decide) (ht _ mF_Rows_50) (fun _ h9 => h9) rfl d_Rows_cutLeast_16 ?_
  by_cases b1 : oob (u1.1 2 1) 8
  · rw [if_pos b1] at hf; exact absurd hf.symm hs
  rw [if_neg b1] at hf
  refine gz_aald hx hb hK hP 6 2 Xa_6 rfl b1 d_Rows_cutLeast_19 ?_
  rw [X_row b1]
  refine lv_astore_n (lv' := [(2, .ref (ad (10 + (u1.1 2 1).toNatClampNeg))), (0, .ref (ad 4)), (1, .int a1)]) hx hb d_Rows_cutLeast_20 rfl hl (by decide) rfl (fun ls hl => ?_)
  refine lv_aload_n hx hb d_Rows_cutLeast_21 rfl (lv_at hl 1 rfl) ?_
  refine va_get (D := D) (ci := 4) (v := .ref (ad 2)) (C := R_Rows) (T := T_Rows) (N := 3) hx hb ht i_Rows hown hK hP 4 Xa_4 rfl 1 (by decide) (ht _ mF_Rows_20) (fun _ h9 => h9) rfl d_Rows_cutLeast_22 ?_
  refine va_calli (va_runV (As := []) (rest := []) ⟨hx, hb, hml, hown, ht⟩ (c_Board_allDoors l D cA ad hI H.size u1 (fun hn => hs (by rw [hn] at hf; exact hf.symm))) (cwV 0 ht (good_G (gV mM_Rows_53 mI_Board_allDoors mV_Board_allDoors mN_Board mk_Board_allDoors)) rfl rfl rfl (by decide +kernel) ⟨Nat.le_of_ble_eq_true rfl, Nat.le_of_ble_eq_true rfl⟩) ⟨fun a U g mk q => ⟨q.1, q.2.1, q.2.2.1, va_K.moved (u := U) (U := U.calling g mk a) (Vm.Alike.refl U.vm) q.2.2.2⟩, va_recv hK hP (ci := 2) (q0 := 2) rfl Xa_2, fun U hU hW => ⟨rfl, by rw [hU], by rw [hU]; exact hP, va_K.moved hW.alike hK⟩⟩ rfl rfl hl.1 rfl (lv_room (Nat.le_of_ble_eq_true rfl)) d_Rows_cutLeast_25 ⟨Nat.le_of_ble_eq_true rfl, Nat.le_of_ble_eq_true rfl⟩) hS (fun q _ h => hAS _ hS.1 q h) (fun q h => hAS _ hS.1 q h) (fun r2 _ t H locs ht9 hvm hw hB hz1 hk1 hS => ?_)
  obtain ⟨hP, hK9⟩ := hB
  rw [ht9] at hP
  rw [hw, Option.bind_some] at hf
  refine lv_istore_n (lv' := [(3, .int r2), (2, .ref (ad (10 + (u1.1 2 1).toNatClampNeg))), (0, .ref (ad 4)), (1, .int a1)]) hx hb d_Rows_cutLeast_28 rfl hl (by decide) rfl (fun ls hl => ?_)
  refine lv_lconst (v := 0) hx hb d_Rows_cutLeast_29 (by decide) ?_
  refine lv_lstore (lv' := [(4, .long (0 : Int64)), (3, .int r2), (2, .ref (ad (10 + (u1.1 2 1).toNatClampNeg))), (0, .ref (ad 4)), (1, .int a1)]) hx hb d_Rows_cutLeast_30 hl (by decide) rfl (fun ls hl => ?_)
  refine lv_iconst (v := 0) hx hb d_Rows_cutLeast_32 (by decide) ?_
  refine lv_istore (lv' := [(6, .int (0 : Int32)), (4, .long (0 : Int64)), (3, .int r2), (2, .ref (ad (10 + (u1.1 2 1).toNatClampNeg))), (0, .ref (ad 4)), (1, .int a1)]) hx hb d_Rows_cutLeast_33 hl (by decide) rfl (fun ls hl => ?_)
  have lp35_1 : ∀ (n : Nat) (x3_1 : Int32) (y4_1 : Int64) (x6_1 : Int32) (Sx : SS) (H : Heap) (locs : List Loc) (ls : Array Slot), va_P D vwCl (X cA ad Sx) H → va_S A s.heap H locs → lv_has ls 9 [(0, .ref (ad 4)), (1, .int a1), (2, .ref (ad (10 + (u1.1 2 1).toNatClampNeg))), (3, .int x3_1), (4, .long y4_1), (6, .int x6_1)] → f_Rows_cutLeast_L35 a1 (10 + (u1.1 2 1).toNatClampNeg) n x3_1 y4_1 x6_1 Sx ≠ none →
      (∀ o : Int32 × SS, f_Rows_cutLeast_L35 a1 (10 + (u1.1 2 1).toNatClampNeg) n x3_1 y4_1 x6_1 Sx = some (.inl o) → f_Rows_cutLeast a1 S = some o) →
      (∀ v : SS, f_Rows_cutLeast_L35 a1 (10 + (u1.1 2 1).toNatClampNeg) n x3_1 y4_1 x6_1 Sx = some (.inr v) → ∀ (H : Heap) (locs : List Loc) (ls : Array Slot), va_P D vwCl (X cA ad v) H → va_S A s.heap H locs → lv_has ls 9 [(0, .ref (ad 4)), (1, .int a1), (2, .ref (ad (10 + (u1.1 2 1).toNatClampNeg)))] → W p l e (headSpec w_Rows_cutLeast ({ frames := 5, cells := 0, slots := 0, locals := 122 })).room s m ([.ref (ad 4), .int a1] : List Value).toArray below meth c H locs 0 0 Q (F0 m 124 ls [])) →
      W p l e (headSpec w_Rows_cutLeast ({ frames := 5, cells := 0, slots := 0, locals := 122 })).room s m ([.ref (ad 4), .int a1] : List Value).toArray below meth c H locs 0 0 Q (F0 m 35 ls []) := by
    intro n
    induction n with
    | zero => intro x3_1 y4_1 x6_1 Sx H locs ls hP hS hl hs; exact absurd rfl hs
    | succ n ih =>
      intro x3_1 y4_1 x6_1 Sx H locs ls hP hS hl hs hret hexit
      have hf := (f_Rows_cutLeast_L35_s a1 (10 + (u1.1 2 1).toNatClampNeg) n x3_1 y4_1 x6_1 Sx).symm
      refine lv_iload hx hb d_Rows_cutLeast_35 (lv_at hl 5 rfl) ?_
      refine lv_aload_n hx hb d_Rows_cutLeast_37 rfl (lv_at hl 0 rfl) ?_
      refine va_get (D := D) (ci := 4) (v := .ref (ad 1)) (C := R_Rows) (T := T_Rows) (N := 3) hx hb ht i_Rows hown hK hP 4 Xa_4 rfl 0 (by decide) (ht _ mF_Rows_16) (fun _ h9 => h9) rfl d_Rows_cutLeast_38 ?_
      refine va_get (D := D) (ci := 1) (v := .int (Sx.1 1 0)) (C := R_Law) (T := T_Law) (N := 5) hx hb ht i_Law hown hK hP 1 Xa_1 rfl 0 (by decide) (ht _ mF_Rows_57) (fun _ h9 => h9) rfl d_Rows_cutLeast_41 ?_
      refine lv_icmp_ge (tgt := 124) hx hb d_Rows_cutLeast_44 (by decide) (fun c2 => ?_) (fun c2 => ?_)
      · rw [if_pos c2] at hf
        exact hexit _ hf.symm _ _ _ hP hS (lv_sub hl [0, 1, 2] rfl)
      · rw [if_neg c2] at hf
        refine lv_iload hx hb d_Rows_cutLeast_47 (lv_at hl 5 rfl) ?_
        refine lv_if_le (tgt := 61) hx hb d_Rows_cutLeast_49 (by decide) (fun c3 => ?_) (fun c3 => ?_)
        · rw [if_pos c3] at hf
          refine lv_iconst (v := (-1)) hx hb d_Rows_cutLeast_61 (by decide) ?_
          refine lv_istore (lv' := [(7, .int (-1 : Int32)), (0, .ref (ad 4)), (1, .int a1), (2, .ref (ad (10 + (u1.1 2 1).toNatClampNeg))), (3, .int x3_1), (4, .long y4_1), (6, .int x6_1)]) hx hb d_Rows_cutLeast_62 hl (by decide) rfl (fun ls hl => ?_)
          refine lv_aload_n hx hb d_Rows_cutLeast_64 rfl (lv_at hl 1 rfl) ?_
          refine lv_iload hx hb d_Rows_cutLeast_65 (lv_at hl 6 rfl) ?_
          refine lv_iload hx hb d_Rows_cutLeast_67 (lv_at hl 0 rfl) ?_
          refine lv_iload_n hx hb d_Rows_cutLeast_69 rfl (lv_at hl 4 rfl) ?_
          refine lv_lload hx hb d_Rows_cutLeast_70 (lv_at hl 5 rfl) ?_
          refine lv_iload_n hx hb d_Rows_cutLeast_72 rfl (lv_at hl 2 rfl) ?_
          refine va_calli (va_runV (As := [.int x6_1, .int (-1 : Int32), .int x3_1, .long y4_1, .int a1]) (rest := []) ⟨hx, hb, hml, hown, ht⟩ (c_Rows_leastDepth l D cA ad hI H.size x6_1 (-1 : Int32) x3_1 y4_1 a1 Sx (fun hn => hs (by rw [hn] at hf; exact hf.symm))) (cwV 5 ht (good_G (gV mM_Rows_60 mI_Rows_leastDepth mV_Rows_leastDepth mN_Rows mk_Rows_leastDepth)) rfl rfl rfl (by decide +kernel) ⟨Nat.le_of_ble_eq_true rfl, Nat.le_of_ble_eq_true rfl⟩) ⟨fun a U g mk q => ⟨q.1, q.2.1, q.2.2.1, va_K.moved (u := U) (U := U.calling g mk a) (Vm.Alike.refl U.vm) q.2.2.2⟩, va_recv hK hP (ci := 4) (q0 := 4) rfl Xa_4, fun U hU hW => ⟨rfl, by rw [hU], by rw [hU]; exact hP, va_K.moved hW.alike hK⟩⟩ rfl rfl hl.1 rfl (lv_room (Nat.le_of_ble_eq_true rfl)) d_Rows_cutLeast_73 ⟨Nat.le_of_ble_eq_true rfl, Nat.le_of_ble_eq_true rfl⟩) hS (fun q _ h => hAS _ hS.1 q h) (fun q h => hAS _ hS.1 q h) (fun r3 _ t H locs ht9 hvm hw hB hz1 hk1 hS => ?_)
          obtain ⟨hP, hK9⟩ := hB
          rw [ht9] at hP
          rw [hw, Option.bind_some] at hf
          refine lv_istore (lv' := [(8, .int r3), (7, .int (-1 : Int32)), (0, .ref (ad 4)), (1, .int a1), (2, .ref (ad (10 + (u1.1 2 1).toNatClampNeg))), (3, .int x3_1), (4, .long y4_1), (6, .int x6_1)]) hx hb d_Rows_cutLeast_76 hl (by decide) rfl (fun ls hl => ?_)
          refine lv_iload hx hb d_Rows_cutLeast_78 (lv_at hl 0 rfl) ?_
          refine lv_iconst (v := (-1)) hx hb d_Rows_cutLeast_80 (by decide) ?_
          refine lv_icmp_ne (tgt := 86) hx hb d_Rows_cutLeast_81 (by decide) (fun c4 => ?_) (fun c4 => ?_)
          · rw [if_neg c4] at hf
            refine lv_aload_n hx hb d_Rows_cutLeast_86 rfl (lv_at hl 4 rfl) ?_
            refine lv_iload hx hb d_Rows_cutLeast_87 (lv_at hl 7 rfl) ?_
            refine lv_iload hx hb d_Rows_cutLeast_89 (lv_at hl 0 rfl) ?_
            by_cases b5 : oob x6_1 6
            · rw [if_pos b5] at hf; exact absurd hf.symm hs
            rw [if_neg b5] at hf
            refine va_iast hx hb hK hP (X_D hI hAd) hS (10 + (u1.1 2 1).toNatClampNeg) 0 (X_rowat6 b1) rfl b5 d_Rows_cutLeast_91 (fun H locs hP _ hS => ?_)
            replace hP := X_stI (X_rowlt6 b1) (X_rowcell6 b1) hP
            refine lv_iload_n hx hb d_Rows_cutLeast_92 rfl (lv_at hl 5 rfl) ?_
            refine lv_aload_n hx hb d_Rows_cutLeast_93 rfl (lv_at hl 2 rfl) ?_
            refine va_get (D := D) (ci := 4) (v := .ref (ad 2)) (C := R_Rows) (T := T_Rows) (N := 3) hx hb ht i_Rows hown hK hP 4 Xa_4 rfl 1 (by decide) (ht _ mF_Rows_20) (fun _ h9 => h9) rfl d_Rows_cutLeast_94 ?_
            refine lv_iload hx hb d_Rows_cutLeast_97 (lv_at hl 7 rfl) ?_
            refine lv_iload hx hb d_Rows_cutLeast_99 (lv_at hl 0 rfl) ?_
            refine va_calli (va_runV (As := [.int x6_1, .int r3]) (rest := [.int x3_1]) ⟨hx, hb, hml, hown, ht⟩ (c_Board_doorsHolding l D cA ad hI H.size x6_1 r3 (wI Sx (10 + (u1.1 2 1).toNatClampNeg) x6_1.toNatClampNeg r3) (fun hn => hs (by rw [hn] at hf; exact hf.symm))) (cwV 2 ht (good_G (gV mM_Rows_34 mI_Board_doorsHolding mV_Board_doorsHolding mN_Board mk_Board_doorsHolding)) rfl rfl rfl (by decide +kernel) ⟨Nat.le_of_ble_eq_true rfl, Nat.le_of_ble_eq_true rfl⟩) ⟨fun a U g mk q => ⟨q.1, q.2.1, q.2.2.1, va_K.moved (u := U) (U := U.calling g mk a) (Vm.Alike.refl U.vm) q.2.2.2⟩, va_recv hK hP (ci := 2) (q0 := 2) rfl Xa_2, fun U hU hW => ⟨rfl, by rw [hU], by rw [hU]; exact hP, va_K.moved hW.alike hK⟩⟩ rfl rfl hl.1 rfl (lv_room (Nat.le_of_ble_eq_true rfl)) d_Rows_cutLeast_101 ⟨Nat.le_of_ble_eq_true rfl, Nat.le_of_ble_eq_true rfl⟩) hS (fun q _ h => hAS _ hS.1 q h) (fun q h => hAS _ hS.1 q h) (fun r4 _ t H locs ht9 hvm hw hB hz1 hk1 hS => ?_)
            obtain ⟨hP, hK9⟩ := hB
            rw [ht9] at hP
            rw [hw, Option.bind_some] at hf
            refine lv_iand hx hb d_Rows_cutLeast_104 ?_
            refine lv_istore_n (lv' := [(3, .int (x3_1 &&& r4)), (8, .int r3), (7, .int (-1 : Int32)), (0, .ref (ad 4)), (1, .int a1), (2, .ref (ad (10 + (u1.1 2 1).toNatClampNeg))), (4, .long y4_1), (6, .int x6_1)]) hx hb d_Rows_cutLeast_105 rfl hl (by decide) rfl (fun ls hl => ?_)
            refine lv_lload hx hb d_Rows_cutLeast_106 (lv_at hl 6 rfl) ?_
            refine lv_iload hx hb d_Rows_cutLeast_108 (lv_at hl 7 rfl) ?_
            refine lv_iload hx hb d_Rows_cutLeast_110 (lv_at hl 1 rfl) ?_
            refine va_calll (va_runS (As := [.int x6_1, .int r3]) (rest := [.long y4_1]) ⟨hx, hb, hml, hown, ht⟩ (c_Board_bit l D cA ad hI H.size x6_1 r3 (wI Sx (10 + (u1.1 2 1).toNatClampNeg) x6_1.toNatClampNeg r3) (fun hn => hs (by rw [hn] at hf; exact hf.symm))) (va_cwS 2 ht (good_G (gS mM_Rows_64 mS_Board_bit mN_Board mk_Board_bit)) rfl rfl rfl (by decide +kernel) ⟨Nat.le_of_ble_eq_true rfl, Nat.le_of_ble_eq_true rfl⟩) ⟨fun a U g mk q => ⟨q.1, q.2.1, q.2.2.1, va_K.moved (u := U) (U := U.calling g mk a) (Vm.Alike.refl U.vm) q.2.2.2⟩, fun U hU hW => ⟨rfl, by rw [hU], by rw [hU]; exact hP, va_K.moved hW.alike hK⟩⟩ rfl rfl hl.1 rfl (lv_room (Nat.le_of_ble_eq_true rfl)) d_Rows_cutLeast_112 ⟨Nat.le_of_ble_eq_true rfl, Nat.le_of_ble_eq_true rfl⟩) hS (fun q _ h => hAS _ hS.1 q h) (fun q h => hAS _ hS.1 q h) (fun r5 _ t H locs ht9 hvm hw hB hz1 hk1 hS => ?_)
            obtain ⟨hP, hK9⟩ := hB
            rw [ht9] at hP
            rw [hw, Option.bind_some] at hf
            refine lv_lor hx hb d_Rows_cutLeast_115 ?_
            refine lv_lstore (lv' := [(4, .long (y4_1 ||| r5)), (3, .int (x3_1 &&& r4)), (8, .int r3), (7, .int (-1 : Int32)), (0, .ref (ad 4)), (1, .int a1), (2, .ref (ad (10 + (u1.1 2 1).toNatClampNeg))), (6, .int x6_1)]) hx hb d_Rows_cutLeast_116 hl (by decide) rfl (fun ls hl => ?_)
            refine lv_iinc (v := x6_1 + 1) (lv' := [(6, .int (x6_1 + 1)), (4, .long (y4_1 ||| r5)), (3, .int (x3_1 &&& r4)), (8, .int r3), (7, .int (-1 : Int32)), (0, .ref (ad 4)), (1, .int a1), (2, .ref (ad (10 + (u1.1 2 1).toNatClampNeg)))]) hx hb d_Rows_cutLeast_118 hl (k := 7) rfl rfl (by decide) rfl (fun ls hl => ?_)
            refine lv_goto (tgt := 35) hx hb d_Rows_cutLeast_121 (by decide) ?_
            exact ih (x3_1 &&& r4) (y4_1 ||| r5) (x6_1 + 1) (wI Sx (10 + (u1.1 2 1).toNatClampNeg) x6_1.toNatClampNeg r3) _ _ _ hP hS (lv_sub hl [5, 6, 7, 2, 1, 0] rfl) (fun hn => hs (hf.symm.trans hn)) (fun o ho => hret o (hf.symm.trans ho)) (fun v ho => hexit v (hf.symm.trans ho))
          · rw [if_pos c4] at hf
            refine lv_iconst (v := 0) hx hb d_Rows_cutLeast_84 (by decide) ?_
            rw [← hQ]
            have hz : (0 : Int32) = 0 ∨ (0 : Int32) = 1 := Or.inl rfl
            exact W.zret (v := (0 : Int32)) hx hb hr (zb_n hz) (fun t ht hW => ⟨⟨(0 : Int32), Sx, rfl, ⟨hret _ hf.symm, hz⟩, by rw [ht]; exact hP, va_K.moved hW.alike hK⟩, hS.F ht⟩) hS.2.2 d_Rows_cutLeast_85
        · rw [if_neg c3] at hf
          refine lv_aload_n hx hb d_Rows_cutLeast_52 rfl (lv_at hl 2 rfl) ?_
          refine lv_iload hx hb d_Rows_cutLeast_53 (lv_at hl 5 rfl) ?_
          refine lv_iconst (v := 1) hx hb d_Rows_cutLeast_55 (by decide) ?_
          refine lv_isub hx hb d_Rows_cutLeast_56 ?_
          by_cases b6 : oob (x6_1 - (1 : Int32)) 6
          · rw [if_pos b6] at hf; exact absurd hf.symm hs
          rw [if_neg b6] at hf
          refine va_iald (f := Sx.1 (10 + (u1.1 2 1).toNatClampNeg)) hx hb hK hP (10 + (u1.1 2 1).toNatClampNeg) 0 (X_rowat6 b1) rfl b6 d_Rows_cutLeast_57 ?_
          refine lv_goto (tgt := 62) hx hb d_Rows_cutLeast_58 (by decide) ?_
          refine lv_istore (lv' := [(7, .int (Sx.1 (10 + (u1.1 2 1).toNatClampNeg) (x6_1 - (1 : Int32)).toNatClampNeg)), (0, .ref (ad 4)), (1, .int a1), (2, .ref (ad (10 + (u1.1 2 1).toNatClampNeg))), (3, .int x3_1), (4, .long y4_1), (6, .int x6_1)]) hx hb d_Rows_cutLeast_62 hl (by decide) rfl (fun ls hl => ?_)
          refine lv_aload_n hx hb d_Rows_cutLeast_64 rfl (lv_at hl 1 rfl) ?_
          refine lv_iload hx hb d_Rows_cutLeast_65 (lv_at hl 6 rfl) ?_
          refine lv_iload hx hb d_Rows_cutLeast_67 (lv_at hl 0 rfl) ?_
          refine lv_iload_n hx hb d_Rows_cutLeast_69 rfl (lv_at hl 4 rfl) ?_
          refine lv_lload hx hb d_Rows_cutLeast_70 (lv_at hl 5 rfl) ?_
          refine lv_iload_n hx hb d_Rows_cutLeast_72 rfl (lv_at hl 2 rfl) ?_
          refine va_calli (va_runV (As := [.int x6_1, .int (Sx.1 (10 + (u1.1 2 1).toNatClampNeg) (x6_1 - (1 : Int32)).toNatClampNeg), .int x3_1, .long y4_1, .int a1]) (rest := []) ⟨hx, hb, hml, hown, ht⟩ (c_Rows_leastDepth l D cA ad hI H.size x6_1 (Sx.1 (10 + (u1.1 2 1).toNatClampNeg) (x6_1 - (1 : Int32)).toNatClampNeg) x3_1 y4_1 a1 Sx (fun hn => hs (by rw [hn] at hf; exact hf.symm))) (cwV 5 ht (good_G (gV mM_Rows_60 mI_Rows_leastDepth mV_Rows_leastDepth mN_Rows mk_Rows_leastDepth)) rfl rfl rfl (by decide +kernel) ⟨Nat.le_of_ble_eq_true rfl, Nat.le_of_ble_eq_true rfl⟩) ⟨fun a U g mk q => ⟨q.1, q.2.1, q.2.2.1, va_K.moved (u := U) (U := U.calling g mk a) (Vm.Alike.refl U.vm) q.2.2.2⟩, va_recv hK hP (ci := 4) (q0 := 4) rfl Xa_4, fun U hU hW => ⟨rfl, by rw [hU], by rw [hU]; exact hP, va_K.moved hW.alike hK⟩⟩ rfl rfl hl.1 rfl (lv_room (Nat.le_of_ble_eq_true rfl)) d_Rows_cutLeast_73 ⟨Nat.le_of_ble_eq_true rfl, Nat.le_of_ble_eq_true rfl⟩) hS (fun q _ h => hAS _ hS.1 q h) (fun q h => hAS _ hS.1 q h) (fun r6 _ t H locs ht9 hvm hw hB hz1 hk1 hS => ?_)
          obtain ⟨hP, hK9⟩ := hB
          rw [ht9] at hP
          rw [hw, Option.bind_some] at hf
          refine lv_istore (lv' := [(8, .int r6), (7, .int (Sx.1 (10 + (u1.1 2 1).toNatClampNeg) (x6_1 - (1 : Int32)).toNatClampNeg)), (0, .ref (ad 4)), (1, .int a1), (2, .ref (ad (10 + (u1.1 2 1).toNatClampNeg))), (3, .int x3_1), (4, .long y4_1), (6, .int x6_1)]) hx hb d_Rows_cutLeast_76 hl (by decide) rfl (fun ls hl => ?_)
          refine lv_iload hx hb d_Rows_cutLeast_78 (lv_at hl 0 rfl) ?_
          refine lv_iconst (v := (-1)) hx hb d_Rows_cutLeast_80 (by decide) ?_
          refine lv_icmp_ne (tgt := 86) hx hb d_Rows_cutLeast_81 (by decide) (fun c7 => ?_) (fun c7 => ?_)
          · rw [if_neg c7] at hf
            refine lv_aload_n hx hb d_Rows_cutLeast_86 rfl (lv_at hl 4 rfl) ?_
            refine lv_iload hx hb d_Rows_cutLeast_87 (lv_at hl 7 rfl) ?_
            refine lv_iload hx hb d_Rows_cutLeast_89 (lv_at hl 0 rfl) ?_
            by_cases b8 : oob x6_1 6
            · rw [if_pos b8] at hf; exact absurd hf.symm hs
            rw [if_neg b8] at hf
            refine va_iast hx hb hK hP (X_D hI hAd) hS (10 + (u1.1 2 1).toNatClampNeg) 0 (X_rowat6 b1) rfl b8 d_Rows_cutLeast_91 (fun H locs hP _ hS => ?_)
            replace hP := X_stI (X_rowlt6 b1) (X_rowcell6 b1) hP
            refine lv_iload_n hx hb d_Rows_cutLeast_92 rfl (lv_at hl 5 rfl) ?_
            refine lv_aload_n hx hb d_Rows_cutLeast_93 rfl (lv_at hl 2 rfl) ?_
            refine va_get (D := D) (ci := 4) (v := .ref (ad 2)) (C := R_Rows) (T := T_Rows) (N := 3) hx hb ht i_Rows hown hK hP 4 Xa_4 rfl 1 (by decide) (ht _ mF_Rows_20) (fun _ h9 => h9) rfl d_Rows_cutLeast_94 ?_
            refine lv_iload hx hb d_Rows_cutLeast_97 (lv_at hl 7 rfl) ?_
            refine lv_iload hx hb d_Rows_cutLeast_99 (lv_at hl 0 rfl) ?_
            refine va_calli (va_runV (As := [.int x6_1, .int r6]) (rest := [.int x3_1]) ⟨hx, hb, hml, hown, ht⟩ (c_Board_doorsHolding l D cA ad hI H.size x6_1 r6 (wI Sx (10 + (u1.1 2 1).toNatClampNeg) x6_1.toNatClampNeg r6) (fun hn => hs (by rw [hn] at hf; exact hf.symm))) (cwV 2 ht (good_G (gV mM_Rows_34 mI_Board_doorsHolding mV_Board_doorsHolding mN_Board mk_Board_doorsHolding)) rfl rfl rfl (by decide +kernel) ⟨Nat.le_of_ble_eq_true rfl, Nat.le_of_ble_eq_true rfl⟩) ⟨fun a U g mk q => ⟨q.1, q.2.1, q.2.2.1, va_K.moved (u := U) (U := U.calling g mk a) (Vm.Alike.refl U.vm) q.2.2.2⟩, va_recv hK hP (ci := 2) (q0 := 2) rfl Xa_2, fun U hU hW => ⟨rfl, by rw [hU], by rw [hU]; exact hP, va_K.moved hW.alike hK⟩⟩ rfl rfl hl.1 rfl (lv_room (Nat.le_of_ble_eq_true rfl)) d_Rows_cutLeast_101 ⟨Nat.le_of_ble_eq_true rfl, Nat.le_of_ble_eq_true rfl⟩) hS (fun q _ h => hAS _ hS.1 q h) (fun q h => hAS _ hS.1 q h) (fun r7 _ t H locs ht9 hvm hw hB hz1 hk1 hS => ?_)
            obtain ⟨hP, hK9⟩ := hB
            rw [ht9] at hP
            rw [hw, Option.bind_some] at hf
            refine lv_iand hx hb d_Rows_cutLeast_104 ?_
            refine lv_istore_n (lv' := [(3, .int (x3_1 &&& r7)), (8, .int r6), (7, .int (Sx.1 (10 + (u1.1 2 1).toNatClampNeg) (x6_1 - (1 : Int32)).toNatClampNeg)), (0, .ref (ad 4)), (1, .int a1), (2, .ref (ad (10 + (u1.1 2 1).toNatClampNeg))), (4, .long y4_1), (6, .int x6_1)]) hx hb d_Rows_cutLeast_105 rfl hl (by decide) rfl (fun ls hl => ?_)
            refine lv_lload hx hb d_Rows_cutLeast_106 (lv_at hl 6 rfl) ?_
            refine lv_iload hx hb d_Rows_cutLeast_108 (lv_at hl 7 rfl) ?_
            refine lv_iload hx hb d_Rows_cutLeast_110 (lv_at hl 1 rfl) ?_
            refine va_calll (va_runS (As := [.int x6_1, .int r6]) (rest := [.long y4_1]) ⟨hx, hb, hml, hown, ht⟩ (c_Board_bit l D cA ad hI H.size x6_1 r6 (wI Sx (10 + (u1.1 2 1).toNatClampNeg) x6_1.toNatClampNeg r6) (fun hn => hs (by rw [hn] at hf; exact hf.symm))) (va_cwS 2 ht (good_G (gS mM_Rows_64 mS_Board_bit mN_Board mk_Board_bit)) rfl rfl rfl (by decide +kernel) ⟨Nat.le_of_ble_eq_true rfl, Nat.le_of_ble_eq_true rfl⟩) ⟨fun a U g mk q => ⟨q.1, q.2.1, q.2.2.1, va_K.moved (u := U) (U := U.calling g mk a) (Vm.Alike.refl U.vm) q.2.2.2⟩, fun U hU hW => ⟨rfl, by rw [hU], by rw [hU]; exact hP, va_K.moved hW.alike hK⟩⟩ rfl rfl hl.1 rfl (lv_room (Nat.le_of_ble_eq_true rfl)) d_Rows_cutLeast_112 ⟨Nat.le_of_ble_eq_true rfl, Nat.le_of_ble_eq_true rfl⟩) hS (fun q _ h => hAS _ hS.1 q h) (fun q h => hAS _ hS.1 q h) (fun r8 _ t H locs ht9 hvm hw hB hz1 hk1 hS => ?_)
            obtain ⟨hP, hK9⟩ := hB
            rw [ht9] at hP
            rw [hw, Option.bind_some] at hf
            refine lv_lor hx hb d_Rows_cutLeast_115 ?_
            refine lv_lstore (lv' := [(4, .long (y4_1 ||| r8)), (3, .int (x3_1 &&& r7)), (8, .int r6), (7, .int (Sx.1 (10 + (u1.1 2 1).toNatClampNeg) (x6_1 - (1 : Int32)).toNatClampNeg)), (0, .ref (ad 4)), (1, .int a1), (2, .ref (ad (10 + (u1.1 2 1).toNatClampNeg))), (6, .int x6_1)]) hx hb d_Rows_cutLeast_116 hl (by decide) rfl (fun ls hl => ?_)
            refine lv_iinc (v := x6_1 + 1) (lv' := [(6, .int (x6_1 + 1)), (4, .long (y4_1 ||| r8)), (3, .int (x3_1 &&& r7)), (8, .int r6), (7, .int (Sx.1 (10 + (u1.1 2 1).toNatClampNeg) (x6_1 - (1 : Int32)).toNatClampNeg)), (0, .ref (ad 4)), (1, .int a1), (2, .ref (ad (10 + (u1.1 2 1).toNatClampNeg)))]) hx hb d_Rows_cutLeast_118 hl (k := 7) rfl rfl (by decide) rfl (fun ls hl => ?_)
            refine lv_goto (tgt := 35) hx hb d_Rows_cutLeast_121 (by decide) ?_
            exact ih (x3_1 &&& r7) (y4_1 ||| r8) (x6_1 + 1) (wI Sx (10 + (u1.1 2 1).toNatClampNeg) x6_1.toNatClampNeg r6) _ _ _ hP hS (lv_sub hl [5, 6, 7, 2, 1, 0] rfl) (fun hn => hs (hf.symm.trans hn)) (fun o ho => hret o (hf.symm.trans ho)) (fun v ho => hexit v (hf.symm.trans ho))
          · rw [if_pos c7] at hf
            refine lv_iconst (v := 0) hx hb d_Rows_cutLeast_84 (by decide) ?_
            rw [← hQ]
            have hz : (0 : Int32) = 0 ∨ (0 : Int32) = 1 := Or.inl rfl
            exact W.zret (v := (0 : Int32)) hx hb hr (zb_n hz) (fun t ht hW => ⟨⟨(0 : Int32), Sx, rfl, ⟨hret _ hf.symm, hz⟩, by rw [ht]; exact hP, va_K.moved hW.alike hK⟩, hS.F ht⟩) hS.2.2 d_Rows_cutLeast_85
  refine lp35_1 FU r2 (0 : Int64) (0 : Int32) u1 _ _ _ hP hS (lv_sub hl [4, 5, 3, 2, 1, 0] rfl) (fun hn => ?_) (fun o ho => ?_) (fun v9 hvv9 H locs ls hP hS hl => ?_)
  · rw [hn] at hf; exact hs hf.symm
  · rw [ho, Option.bind_some, Sum.elim_inl] at hf; exact hf.symm
  · rw [hvv9, Option.bind_some, Sum.elim_inr] at hf
    refine lv_iconst (v := 1) hx hb d_Rows_cutLeast_124 (by decide) ?_
    rw [← hQ]
    have hz : (1 : Int32) = 0 ∨ (1 : Int32) = 1 := Or.inr rfl
    exact W.zret (v := (1 : Int32)) hx hb hr (zb_n hz) (fun t ht hW => ⟨⟨(1 : Int32), v9, rfl, ⟨hf.symm, hz⟩, by rw [ht]; exact hP, va_K.moved hW.alike hK⟩, hS.F ht⟩) hS.2.2 d_Rows_cutLeast_125
