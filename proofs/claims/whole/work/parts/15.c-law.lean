set_option maxHeartbeats 4000000 in
set_option maxRecDepth 100000 in
theorem c_LW_key (l : Launch) (hlt : l.stackTraces = false) (D : va_G) (cA : Nat → ClassId) (ad : Nat → Nat) (hI : InjA ad) (sz : Nat) (S : SS) (hs : f_LW_key S ≠ none) : Met l y_LW_key w_LW_key ({ frames := 7, cells := 1, slots := 6, locals := 110 }) (va_Pc [.ref (ad 0), .ref (ad 38)] (fun U => U.heap.size = sz ∧ va_P D vwCl (X cA ad S) U.heap ∧ va_K D vwCl (tysX cA) U ∧ ZX (AS ad sz) U)) (va_Qi (fun (r : Int32) (u : SS) => f_LW_key S = some (r, u)) (fun (u : SS) t => va_P D vwCl (X cA ad u) t.heap ∧ va_K D vwCl (tysX cA) t) (AS ad sz)) 1 6 (AS ad sz) := by
  refine gz_ofWH (cc := b_LW_key) (maxL := 3) (ret := (some .int)) (hh := [(0, 8, 11, 13)]) (by decide) rfl ?_
  intro p e s m args below meth c s₁ B hml htab hv
  obtain ⟨rfl, hsz, hP, hK, hZ⟩ := hv
  have hx := B.exec
  have hb := B.bytes
  have hr := B.returns
  have hts := atoms_spec (ws := w_LW_key) B.pre
  have ht := fun w h => hts w (List.mem_cons_of_mem _ h)
  have hown : s.vm.findClass R_LW = some m.cls := findClass_of_methodNamed B.named
  have hlocks := B.notSynchronized
  subst hsz
  have hAd : ∀ q, q < NP → AS ad s.heap.size (ad q) := fun q h => Or.inl ⟨q, h, rfl⟩
  have hA : ∀ q : Nat, s.heap.size ≤ q → AS ad s.heap.size q := fun q h => Or.inr h
  have hAS : ∀ z : Nat, s.heap.size ≤ z → ∀ q : Nat, AS ad z q → AS ad s.heap.size q := fun z h q hq => hq.elim Or.inl (fun g => Or.inr (Nat.le_trans h g))
  generalize hAe : AS ad s.heap.size = A at hAd hA hAS hZ ⊢
  have hS : va_S A s.heap s.heap [] := va_S.rf
  have hl := lv_entry ([.ref (ad 0), .ref (ad 38)]) (n := 3) (Nat.le_of_ble_eq_true rfl)
  rw [lg_entry_eq]
  generalize (lg_sl ([.ref (ad 0), .ref (ad 38)]) ++ List.replicate (3 - (lg_sl ([.ref (ad 0), .ref (ad 38)])).length) Slot.unset).toArray = ls at hl ⊢
  have hl : lv_has ls 3 [(0, .ref (ad 0)), (1, .ref (ad 38))] := hl
  have hf := (f_LW_key_s S).symm
  generalize hQ : MQ below _ _ s _ _ _ = Q
  refine lv_aload_n hx hb d_LW_key_0 rfl (lv_at hl 1 rfl) ?_
  refine lv_iconst (v := 0) hx hb d_LW_key_1 (by decide) ?_
  refine lv_aload_n hx hb d_LW_key_2 rfl (lv_at hl 0 rfl) ?_
  refine vx_calli (vx_runV (As := []) (rest := [.int (0 : Int32), .ref (ad 38)]) ⟨hx, hb, hml, hown, ht⟩ (c_MK_key l hlt D cA ad hI s.heap.size S (fun hn => hs (by rw [hn] at hf; exact hf.symm))) (cwV 0 ht (good_G (gV mM_LW_7 mI_MK_key mV_MK_key mN_MK mk_MK_key)) rfl rfl rfl (by decide +kernel) ⟨Nat.le_of_ble_eq_true rfl, Nat.le_of_ble_eq_true rfl⟩) ⟨fun a U g mk q => ⟨q.1, q.2.1, q.2.2.1, va_K.moved (u := U) (U := U.calling g mk a) (Vm.Alike.refl U.vm) q.2.2.2.1, ZX.call q.2.2.2.2⟩, va_recv hK hP (ci := 0) (q0 := 0) rfl Xa_0, fun U hU hW => ⟨rfl, by rw [hU], by rw [hU]; exact hP, va_K.moved hW.alike hK, hZ.to hS (hAS _ hS.1) hU hW⟩⟩ rfl rfl hl.1 rfl (lv_room (Nat.le_of_ble_eq_true rfl)) d_LW_key_3 ⟨Nat.le_of_ble_eq_true rfl, Nat.le_of_ble_eq_true rfl⟩) hS (fun q _ h => hAS _ hS.1 q h) (fun q h => hAS _ hS.1 q h) (fun q _ h => hAS _ hS.1 q h) (fun E ce q9 kx tx H locs ht9 hvm9 hw9 hB9 hz9 hk9 hS hce hcv hcl => ?_) (fun r1 u1 t H locs ht9 hvm hw hB hz1 hk1 hS => ?_)
  · obtain ⟨hE9, hP, hK9⟩ := hB9
    rw [ht9] at hP
    obtain ⟨hw9, hk9⟩ := hw9
    rw [hw9, Option.bind_some, Sum.elim_inl] at hf
    subst hk9
    have hE9 : E = R_ISE := hE9
    subst hE9
    refine vx_catch (name := R_ISE) hown [] ⟨0, 8, 11, 13⟩ [] htab (fun z hz => nomatch hz) (by decide) (by decide) (ht _ mK_LW_13) (useCD rfl (hZ.2.2.2.1 _ mCA2 rfl)) hce hcv hcl ?_
    refine lv_astore_n (lv' := [(2, .ref q9), (0, .ref (ad 0)), (1, .ref (ad 38))]) hx hb d_LW_key_11 rfl hl (by decide) rfl (fun ls hl => ?_)
    refine lv_iconst (v := 1) hx hb d_LW_key_12 (by decide) ?_
    rw [← hQ]
    exact W.iret (v := (1 : Int32)) hx hb hr (fun t ht hW => ⟨⟨(1 : Int32), S, rfl, hf.symm, by rw [ht]; exact hP, va_K.moved hW.alike hK⟩, hS.F ht⟩) hS.2.2 d_LW_key_13
  obtain ⟨hP, hK9⟩ := hB
  rw [ht9] at hP
  rw [hw, Option.bind_some, Sum.elim_inr] at hf
  dsimp only at hf
  refine lv_i2l hx hb d_LW_key_6 rfl ?_
  by_cases b1 : oob (0 : Int32) 1
  · rw [if_pos b1] at hf; exact absurd hf.symm hs
  rw [if_neg b1] at hf
  refine va_last hx hb hK hP (X_D hI hAd) hS 38 1 Xa_38 rfl b1 d_LW_key_7 (fun H locs hP _ hS => ?_)
  replace hP := X_stL (by decide) Xc_38 hP
  refine lv_goto (tgt := 14) hx hb d_LW_key_8 (by decide) ?_
  refine lv_iconst (v := 0) hx hb d_LW_key_14 (by decide) ?_
  rw [← hQ]
  exact W.iret (v := (0 : Int32)) hx hb hr (fun t ht hW => ⟨⟨(0 : Int32), wL u1 38 (0 : Int32).toNatClampNeg r1.toInt64, rfl, hf.symm, by rw [ht]; exact hP, va_K.moved hW.alike hK⟩, hS.F ht⟩) hS.2.2 d_LW_key_15
set_option maxHeartbeats 4000000 in
set_option maxRecDepth 100000 in
theorem c_LW_door (l : Launch) (hlt : l.stackTraces = false) (D : va_G) (cA : Nat → ClassId) (ad : Nat → Nat) (hI : InjA ad) (sz : Nat) (S : SS) (hs : f_LW_door S ≠ none) : Met l y_LW_door w_LW_door ({ frames := 7, cells := 1, slots := 6, locals := 110 }) (va_Pc [.ref (ad 0), .ref (ad 38)] (fun U => U.heap.size = sz ∧ va_P D vwCl (X cA ad S) U.heap ∧ va_K D vwCl (tysX cA) U ∧ ZX (AS ad sz) U)) (va_Qi (fun (r : Int32) (u : SS) => f_LW_door S = some (r, u)) (fun (u : SS) t => va_P D vwCl (X cA ad u) t.heap ∧ va_K D vwCl (tysX cA) t) (AS ad sz)) 1 6 (AS ad sz) := by
  refine gz_ofWH (cc := b_LW_door) (maxL := 3) (ret := (some .int)) (hh := [(0, 8, 11, 13)]) (by decide) rfl ?_
  intro p e s m args below meth c s₁ B hml htab hv
  obtain ⟨rfl, hsz, hP, hK, hZ⟩ := hv
  have hx := B.exec
  have hb := B.bytes
  have hr := B.returns
  have hts := atoms_spec (ws := w_LW_door) B.pre
  have ht := fun w h => hts w (List.mem_cons_of_mem _ h)
  have hown : s.vm.findClass R_LW = some m.cls := findClass_of_methodNamed B.named
  have hlocks := B.notSynchronized
  subst hsz
  have hAd : ∀ q, q < NP → AS ad s.heap.size (ad q) := fun q h => Or.inl ⟨q, h, rfl⟩
  have hA : ∀ q : Nat, s.heap.size ≤ q → AS ad s.heap.size q := fun q h => Or.inr h
  have hAS : ∀ z : Nat, s.heap.size ≤ z → ∀ q : Nat, AS ad z q → AS ad s.heap.size q := fun z h q hq => hq.elim Or.inl (fun g => Or.inr (Nat.le_trans h g))
  generalize hAe : AS ad s.heap.size = A at hAd hA hAS hZ ⊢
  have hS : va_S A s.heap s.heap [] := va_S.rf
  have hl := lv_entry ([.ref (ad 0), .ref (ad 38)]) (n := 3) (Nat.le_of_ble_eq_true rfl)
  rw [lg_entry_eq]
  generalize (lg_sl ([.ref (ad 0), .ref (ad 38)]) ++ List.replicate (3 - (lg_sl ([.ref (ad 0), .ref (ad 38)])).length) Slot.unset).toArray = ls at hl ⊢
  have hl : lv_has ls 3 [(0, .ref (ad 0)), (1, .ref (ad 38))] := hl
  have hf := (f_LW_door_s S).symm
  generalize hQ : MQ below _ _ s _ _ _ = Q
  refine lv_aload_n hx hb d_LW_door_0 rfl (lv_at hl 1 rfl) ?_
  refine lv_iconst (v := 0) hx hb d_LW_door_1 (by decide) ?_
  refine lv_aload_n hx hb d_LW_door_2 rfl (lv_at hl 0 rfl) ?_
  refine vx_calli (vx_runV (As := []) (rest := [.int (0 : Int32), .ref (ad 38)]) ⟨hx, hb, hml, hown, ht⟩ (c_MK_door l hlt D cA ad hI s.heap.size S (fun hn => hs (by rw [hn] at hf; exact hf.symm))) (cwV 0 ht (good_G (gV mM_LW_15 mI_MK_door mV_MK_door mN_MK mk_MK_door)) rfl rfl rfl (by decide +kernel) ⟨Nat.le_of_ble_eq_true rfl, Nat.le_of_ble_eq_true rfl⟩) ⟨fun a U g mk q => ⟨q.1, q.2.1, q.2.2.1, va_K.moved (u := U) (U := U.calling g mk a) (Vm.Alike.refl U.vm) q.2.2.2.1, ZX.call q.2.2.2.2⟩, va_recv hK hP (ci := 0) (q0 := 0) rfl Xa_0, fun U hU hW => ⟨rfl, by rw [hU], by rw [hU]; exact hP, va_K.moved hW.alike hK, hZ.to hS (hAS _ hS.1) hU hW⟩⟩ rfl rfl hl.1 rfl (lv_room (Nat.le_of_ble_eq_true rfl)) d_LW_door_3 ⟨Nat.le_of_ble_eq_true rfl, Nat.le_of_ble_eq_true rfl⟩) hS (fun q _ h => hAS _ hS.1 q h) (fun q h => hAS _ hS.1 q h) (fun q _ h => hAS _ hS.1 q h) (fun E ce q9 kx tx H locs ht9 hvm9 hw9 hB9 hz9 hk9 hS hce hcv hcl => ?_) (fun r1 u1 t H locs ht9 hvm hw hB hz1 hk1 hS => ?_)
  · obtain ⟨hE9, hP, hK9⟩ := hB9
    rw [ht9] at hP
    obtain ⟨hw9, hk9⟩ := hw9
    rw [hw9, Option.bind_some, Sum.elim_inl] at hf
    subst hk9
    have hE9 : E = R_ISE := hE9
    subst hE9
    refine vx_catch (name := R_ISE) hown [] ⟨0, 8, 11, 13⟩ [] htab (fun z hz => nomatch hz) (by decide) (by decide) (ht _ mK_LW_13) (useCD rfl (hZ.2.2.2.1 _ mCA2 rfl)) hce hcv hcl ?_
    refine lv_astore_n (lv' := [(2, .ref q9), (0, .ref (ad 0)), (1, .ref (ad 38))]) hx hb d_LW_door_11 rfl hl (by decide) rfl (fun ls hl => ?_)
    refine lv_iconst (v := 1) hx hb d_LW_door_12 (by decide) ?_
    rw [← hQ]
    exact W.iret (v := (1 : Int32)) hx hb hr (fun t ht hW => ⟨⟨(1 : Int32), S, rfl, hf.symm, by rw [ht]; exact hP, va_K.moved hW.alike hK⟩, hS.F ht⟩) hS.2.2 d_LW_door_13
  obtain ⟨hP, hK9⟩ := hB
  rw [ht9] at hP
  rw [hw, Option.bind_some, Sum.elim_inr] at hf
  dsimp only at hf
  refine lv_i2l hx hb d_LW_door_6 rfl ?_
  by_cases b1 : oob (0 : Int32) 1
  · rw [if_pos b1] at hf; exact absurd hf.symm hs
  rw [if_neg b1] at hf
  refine va_last hx hb hK hP (X_D hI hAd) hS 38 1 Xa_38 rfl b1 d_LW_door_7 (fun H locs hP _ hS => ?_)
  replace hP := X_stL (by decide) Xc_38 hP
  refine lv_goto (tgt := 14) hx hb d_LW_door_8 (by decide) ?_
  refine lv_iconst (v := 0) hx hb d_LW_door_14 (by decide) ?_
  rw [← hQ]
  exact W.iret (v := (0 : Int32)) hx hb hr (fun t ht hW => ⟨⟨(0 : Int32), wL u1 38 (0 : Int32).toNatClampNeg r1.toInt64, rfl, hf.symm, by rw [ht]; exact hP, va_K.moved hW.alike hK⟩, hS.F ht⟩) hS.2.2 d_LW_door_15
set_option maxHeartbeats 4000000 in
set_option maxRecDepth 100000 in
theorem c_LW_must (l : Launch) (hlt : l.stackTraces = false) (D : va_G) (cA : Nat → ClassId) (ad : Nat → Nat) (hI : InjA ad) (sz : Nat) (a1 : Int32) (a2 : Int32) (a3 : Int32) (S : SS) (hs : f_LW_must a1 a2 a3 S ≠ none) : Met l y_LW_must w_LW_must ({ frames := 8, cells := 2, slots := 12, locals := 135 }) (va_Pc [.ref (ad 0), .int a1, .int a2, .int a3, .ref (ad 38)] (fun U => U.heap.size = sz ∧ va_P D vwCl (X cA ad S) U.heap ∧ va_K D vwCl (tysX cA) U ∧ ZX (AS ad sz) U)) (va_Qi (fun (r : Int32) (u : SS) => f_LW_must a1 a2 a3 S = some (r, u)) (fun (u : SS) t => va_P D vwCl (X cA ad u) t.heap ∧ va_K D vwCl (tysX cA) t) (AS ad sz)) 2 12 (AS ad sz) := by
  refine gz_ofWH (cc := b_LW_must) (maxL := 6) (ret := (some .int)) (hh := [(0, 19, 22, 22)]) (by decide) rfl ?_
  intro p e s m args below meth c s₁ B hml htab hv
  obtain ⟨rfl, hsz, hP, hK, hZ⟩ := hv
  have hx := B.exec
  have hb := B.bytes
  have hr := B.returns
  have hts := atoms_spec (ws := w_LW_must) B.pre
  have ht := fun w h => hts w (List.mem_cons_of_mem _ h)
  have hown : s.vm.findClass R_LW = some m.cls := findClass_of_methodNamed B.named
  have hlocks := B.notSynchronized
  subst hsz
  have hAd : ∀ q, q < NP → AS ad s.heap.size (ad q) := fun q h => Or.inl ⟨q, h, rfl⟩
  have hA : ∀ q : Nat, s.heap.size ≤ q → AS ad s.heap.size q := fun q h => Or.inr h
  have hAS : ∀ z : Nat, s.heap.size ≤ z → ∀ q : Nat, AS ad z q → AS ad s.heap.size q := fun z h q hq => hq.elim Or.inl (fun g => Or.inr (Nat.le_trans h g))
  generalize hAe : AS ad s.heap.size = A at hAd hA hAS hZ ⊢
  have hS : va_S A s.heap s.heap [] := va_S.rf
  have hl := lv_entry ([.ref (ad 0), .int a1, .int a2, .int a3, .ref (ad 38)]) (n := 6) (Nat.le_of_ble_eq_true rfl)
  rw [lg_entry_eq]
  generalize (lg_sl ([.ref (ad 0), .int a1, .int a2, .int a3, .ref (ad 38)]) ++ List.replicate (6 - (lg_sl ([.ref (ad 0), .int a1, .int a2, .int a3, .ref (ad 38)])).length) Slot.unset).toArray = ls at hl ⊢
  have hl : lv_has ls 6 [(0, .ref (ad 0)), (1, .int a1), (2, .int a2), (3, .int a3), (4, .ref (ad 38))] := hl
  have hf := (f_LW_must_s a1 a2 a3 S).symm
  generalize hQ : MQ below _ _ s _ _ _ = Q
  refine lv_aload hx hb d_LW_must_0 (lv_at hl 4 rfl) ?_
  refine lv_iconst (v := 0) hx hb d_LW_must_2 (by decide) ?_
  refine lv_aload_n hx hb d_LW_must_3 rfl (lv_at hl 0 rfl) ?_
  refine lv_iload_n hx hb d_LW_must_4 rfl (lv_at hl 1 rfl) ?_
  refine lv_iload_n hx hb d_LW_must_5 rfl (lv_at hl 2 rfl) ?_
  refine lv_iload_n hx hb d_LW_must_6 rfl (lv_at hl 3 rfl) ?_
  refine vx_calli (vx_runV (As := [.int a1, .int a2, .int a3]) (rest := [.int (0 : Int32), .ref (ad 38)]) ⟨hx, hb, hml, hown, ht⟩ (c_MK_must l hlt D cA ad hI s.heap.size a1 a2 a3 S (fun hn => hs (by rw [hn] at hf; exact hf.symm))) (cwV 3 ht (good_G (gV mM_LW_18 mI_MK_must mV_MK_must mN_MK mk_MK_must)) rfl rfl rfl (by decide +kernel) ⟨Nat.le_of_ble_eq_true rfl, Nat.le_of_ble_eq_true rfl⟩) ⟨fun a U g mk q => ⟨q.1, q.2.1, q.2.2.1, va_K.moved (u := U) (U := U.calling g mk a) (Vm.Alike.refl U.vm) q.2.2.2.1, ZX.call q.2.2.2.2⟩, va_recv hK hP (ci := 0) (q0 := 0) rfl Xa_0, fun U hU hW => ⟨rfl, by rw [hU], by rw [hU]; exact hP, va_K.moved hW.alike hK, hZ.to hS (hAS _ hS.1) hU hW⟩⟩ rfl rfl hl.1 rfl (lv_room (Nat.le_of_ble_eq_true rfl)) d_LW_must_7 ⟨Nat.le_of_ble_eq_true rfl, Nat.le_of_ble_eq_true rfl⟩) hS (fun q _ h => hAS _ hS.1 q h) (fun q h => hAS _ hS.1 q h) (fun q _ h => hAS _ hS.1 q h) (fun E ce q9 kx tx H locs ht9 hvm9 hw9 hB9 hz9 hk9 hS hce hcv hcl => ?_) (fun r1 u1 t H locs ht9 hvm hw hB hz1 hk1 hS => ?_)
  · obtain ⟨hE9, hP, hK9⟩ := hB9
    rw [ht9] at hP
    obtain ⟨hw9, hk9⟩ := hw9
    rw [hw9, Option.bind_some, Sum.elim_inl] at hf
    subst hk9
    have hE9 : E = R_IAE := hE9
    subst hE9
    refine vx_catch (name := R_IAE) hown [] ⟨0, 19, 22, 22⟩ [] htab (fun z hz => nomatch hz) (by decide) (by decide) (ht _ mK_LW_22) (useCD rfl (hZ.2.2.2.1 _ mCA1 rfl)) hce hcv hcl ?_
    refine lv_astore (lv' := [(5, .ref q9), (0, .ref (ad 0)), (1, .int a1), (2, .int a2), (3, .int a3), (4, .ref (ad 38))]) hx hb d_LW_must_22 hl (by decide) rfl (fun ls hl => ?_)
    refine lv_iconst (v := 1) hx hb d_LW_must_24 (by decide) ?_
    rw [← hQ]
    exact W.iret (v := (1 : Int32)) hx hb hr (fun t ht hW => ⟨⟨(1 : Int32), S, rfl, hf.symm, by rw [ht]; exact hP, va_K.moved hW.alike hK⟩, hS.F ht⟩) hS.2.2 d_LW_must_25
  obtain ⟨hP, hK9⟩ := hB
  rw [ht9] at hP
  obtain ⟨hw, hz1⟩ := hw
  rw [hw, Option.bind_some, Sum.elim_inr] at hf
  dsimp only at hf
  refine lv_if_eq (tgt := 17) hx hb d_LW_must_10 (by decide) (fun c1 => ?_) (fun c1 => ?_)
  · rw [if_pos c1] at hf
    refine lv_lconst (v := 0) hx hb d_LW_must_17 (by decide) ?_
    by_cases b2 : oob (0 : Int32) 1
    · rw [if_pos b2] at hf; exact absurd hf.symm hs
    rw [if_neg b2] at hf
    refine va_last hx hb hK hP (X_D hI hAd) hS 38 1 Xa_38 rfl b2 d_LW_must_18 (fun H locs hP _ hS => ?_)
    replace hP := X_stL (by decide) Xc_38 hP
    refine lv_goto (tgt := 26) hx hb d_LW_must_19 (by decide) ?_
    refine lv_iconst (v := 0) hx hb d_LW_must_26 (by decide) ?_
    rw [← hQ]
    exact W.iret (v := (0 : Int32)) hx hb hr (fun t ht hW => ⟨⟨(0 : Int32), wL u1 38 (0 : Int32).toNatClampNeg (0 : Int64), rfl, hf.symm, by rw [ht]; exact hP, va_K.moved hW.alike hK⟩, hS.F ht⟩) hS.2.2 d_LW_must_27
  · rw [if_neg c1] at hf
    refine lv_lconst (v := 1) hx hb d_LW_must_13 (by decide) ?_
    refine lv_goto (tgt := 18) hx hb d_LW_must_14 (by decide) ?_
    by_cases b3 : oob (0 : Int32) 1
    · rw [if_pos b3] at hf; exact absurd hf.symm hs
    rw [if_neg b3] at hf
    refine va_last hx hb hK hP (X_D hI hAd) hS 38 1 Xa_38 rfl b3 d_LW_must_18 (fun H locs hP _ hS => ?_)
    replace hP := X_stL (by decide) Xc_38 hP
    refine lv_goto (tgt := 26) hx hb d_LW_must_19 (by decide) ?_
    refine lv_iconst (v := 0) hx hb d_LW_must_26 (by decide) ?_
    rw [← hQ]
    exact W.iret (v := (0 : Int32)) hx hb hr (fun t ht hW => ⟨⟨(0 : Int32), wL u1 38 (0 : Int32).toNatClampNeg (1 : Int64), rfl, hf.symm, by rw [ht]; exact hP, va_K.moved hW.alike hK⟩, hS.F ht⟩) hS.2.2 d_LW_must_27
set_option maxHeartbeats 4000000 in
set_option maxRecDepth 100000 in
theorem c_LW_step (l : Launch) (hlt : l.stackTraces = false) (D : va_G) (cA : Nat → ClassId) (ad : Nat → Nat) (hI : InjA ad) (sz : Nat) (a1 : Int32) (S : SS) (hs : f_LW_step a1 S ≠ none) : Met l y_LW_step w_LW_step ({ frames := 7, cells := 1, slots := 6, locals := 112 }) (va_Pc [.ref (ad 0), .int a1, .ref (ad 38)] (fun U => U.heap.size = sz ∧ va_P D vwCl (X cA ad S) U.heap ∧ va_K D vwCl (tysX cA) U ∧ ZX (AS ad sz) U)) (va_Qi (fun (r : Int32) (u : SS) => f_LW_step a1 S = some (r, u)) (fun (u : SS) t => va_P D vwCl (X cA ad u) t.heap ∧ va_K D vwCl (tysX cA) t) (AS ad sz)) 1 6 (AS ad sz) := by
  refine gz_ofWH (cc := b_LW_step) (maxL := 4) (ret := (some .int)) (hh := [(0, 9, 12, 22)]) (by decide) rfl ?_
  intro p e s m args below meth c s₁ B hml htab hv
  obtain ⟨rfl, hsz, hP, hK, hZ⟩ := hv
  have hx := B.exec
  have hb := B.bytes
  have hr := B.returns
  have hts := atoms_spec (ws := w_LW_step) B.pre
  have ht := fun w h => hts w (List.mem_cons_of_mem _ h)
  have hown : s.vm.findClass R_LW = some m.cls := findClass_of_methodNamed B.named
  have hlocks := B.notSynchronized
  subst hsz
  have hAd : ∀ q, q < NP → AS ad s.heap.size (ad q) := fun q h => Or.inl ⟨q, h, rfl⟩
  have hA : ∀ q : Nat, s.heap.size ≤ q → AS ad s.heap.size q := fun q h => Or.inr h
  have hAS : ∀ z : Nat, s.heap.size ≤ z → ∀ q : Nat, AS ad z q → AS ad s.heap.size q := fun z h q hq => hq.elim Or.inl (fun g => Or.inr (Nat.le_trans h g))
  generalize hAe : AS ad s.heap.size = A at hAd hA hAS hZ ⊢
  have hS : va_S A s.heap s.heap [] := va_S.rf
  have hl := lv_entry ([.ref (ad 0), .int a1, .ref (ad 38)]) (n := 4) (Nat.le_of_ble_eq_true rfl)
  rw [lg_entry_eq]
  generalize (lg_sl ([.ref (ad 0), .int a1, .ref (ad 38)]) ++ List.replicate (4 - (lg_sl ([.ref (ad 0), .int a1, .ref (ad 38)])).length) Slot.unset).toArray = ls at hl ⊢
  have hl : lv_has ls 4 [(0, .ref (ad 0)), (1, .int a1), (2, .ref (ad 38))] := hl
  have hf := (f_LW_step_s a1 S).symm
  generalize hQ : MQ below _ _ s _ _ _ = Q
  refine lv_aload_n hx hb d_LW_step_0 rfl (lv_at hl 2 rfl) ?_
  refine lv_iconst (v := 0) hx hb d_LW_step_1 (by decide) ?_
  refine lv_aload_n hx hb d_LW_step_2 rfl (lv_at hl 0 rfl) ?_
  refine lv_iload_n hx hb d_LW_step_3 rfl (lv_at hl 1 rfl) ?_
  refine vx_calli (vx_runV (As := [.int a1]) (rest := [.int (0 : Int32), .ref (ad 38)]) ⟨hx, hb, hml, hown, ht⟩ (c_MK_step l hlt D cA ad hI s.heap.size a1 S (fun hn => hs (by rw [hn] at hf; exact hf.symm))) (cwV 1 ht (good_G (gV mM_LW_24 mI_MK_step mV_MK_step mN_MK mk_MK_step)) rfl rfl rfl (by decide +kernel) ⟨Nat.le_of_ble_eq_true rfl, Nat.le_of_ble_eq_true rfl⟩) ⟨fun a U g mk q => ⟨q.1, q.2.1, q.2.2.1, va_K.moved (u := U) (U := U.calling g mk a) (Vm.Alike.refl U.vm) q.2.2.2.1, ZX.call q.2.2.2.2⟩, va_recv hK hP (ci := 0) (q0 := 0) rfl Xa_0, fun U hU hW => ⟨rfl, by rw [hU], by rw [hU]; exact hP, va_K.moved hW.alike hK, hZ.to hS (hAS _ hS.1) hU hW⟩⟩ rfl rfl hl.1 rfl (lv_room (Nat.le_of_ble_eq_true rfl)) d_LW_step_4 ⟨Nat.le_of_ble_eq_true rfl, Nat.le_of_ble_eq_true rfl⟩) hS (fun q _ h => hAS _ hS.1 q h) (fun q h => hAS _ hS.1 q h) (fun q _ h => hAS _ hS.1 q h) (fun E ce q9 kx tx H locs ht9 hvm9 hw9 hB9 hz9 hk9 hS hce hcv hcl => ?_) (fun r1 u1 t H locs ht9 hvm hw hB hz1 hk1 hS => ?_)
  · obtain ⟨hE9, hP, hK9⟩ := hB9
    rw [ht9] at hP
    obtain ⟨hw9, hk9⟩ := hw9
    rw [hw9, Option.bind_some, Sum.elim_inl] at hf
    subst hk9
    have hE9 : E = R_IAE := hE9
    subst hE9
    refine vx_catch (name := R_IAE) hown [] ⟨0, 9, 12, 22⟩ [] htab (fun z hz => nomatch hz) (by decide) (by decide) (ht _ mK_LW_22) (useCD rfl (hZ.2.2.2.1 _ mCA1 rfl)) hce hcv hcl ?_
    refine lv_astore_n (lv' := [(3, .ref q9), (0, .ref (ad 0)), (1, .int a1), (2, .ref (ad 38))]) hx hb d_LW_step_12 rfl hl (by decide) rfl (fun ls hl => ?_)
    refine lv_iconst (v := 1) hx hb d_LW_step_13 (by decide) ?_
    rw [← hQ]
    exact W.iret (v := (1 : Int32)) hx hb hr (fun t ht hW => ⟨⟨(1 : Int32), S, rfl, hf.symm, by rw [ht]; exact hP, va_K.moved hW.alike hK⟩, hS.F ht⟩) hS.2.2 d_LW_step_14
  obtain ⟨hP, hK9⟩ := hB
  rw [ht9] at hP
  rw [hw, Option.bind_some, Sum.elim_inr] at hf
  dsimp only at hf
  refine lv_i2l hx hb d_LW_step_7 rfl ?_
  by_cases b1 : oob (0 : Int32) 1
  · rw [if_pos b1] at hf; exact absurd hf.symm hs
  rw [if_neg b1] at hf
  refine va_last hx hb hK hP (X_D hI hAd) hS 38 1 Xa_38 rfl b1 d_LW_step_8 (fun H locs hP _ hS => ?_)
  replace hP := X_stL (by decide) Xc_38 hP
  refine lv_goto (tgt := 15) hx hb d_LW_step_9 (by decide) ?_
  refine lv_iconst (v := 0) hx hb d_LW_step_15 (by decide) ?_
  rw [← hQ]
  exact W.iret (v := (0 : Int32)) hx hb hr (fun t ht hW => ⟨⟨(0 : Int32), wL u1 38 (0 : Int32).toNatClampNeg r1.toInt64, rfl, hf.symm, by rw [ht]; exact hP, va_K.moved hW.alike hK⟩, hS.F ht⟩) hS.2.2 d_LW_step_16
set_option maxHeartbeats 4000000 in
set_option maxRecDepth 100000 in
theorem c_LW_bar (l : Launch) (hlt : l.stackTraces = false) (D : va_G) (cA : Nat → ClassId) (ad : Nat → Nat) (hI : InjA ad) (sz : Nat) (a1 : Int32) (a2 : Int32) (a3 : Int32) (S : SS) (hs : f_LW_bar a1 a2 a3 S ≠ none) : Met l y_LW_bar w_LW_bar ({ frames := 8, cells := 2, slots := 12, locals := 135 }) (va_Pc [.ref (ad 0), .int a1, .int a2, .int a3, .ref (ad 38)] (fun U => U.heap.size = sz ∧ va_P D vwCl (X cA ad S) U.heap ∧ va_K D vwCl (tysX cA) U ∧ ZX (AS ad sz) U)) (va_Qi (fun (r : Int32) (u : SS) => f_LW_bar a1 a2 a3 S = some (r, u)) (fun (u : SS) t => va_P D vwCl (X cA ad u) t.heap ∧ va_K D vwCl (tysX cA) t) (AS ad sz)) 2 12 (AS ad sz) := by
  refine gz_ofWH (cc := b_LW_bar) (maxL := 6) (ret := (some .int)) (hh := [(0, 19, 22, 22)]) (by decide) rfl ?_
  intro p e s m args below meth c s₁ B hml htab hv
  obtain ⟨rfl, hsz, hP, hK, hZ⟩ := hv
  have hx := B.exec
  have hb := B.bytes
  have hr := B.returns
  have hts := atoms_spec (ws := w_LW_bar) B.pre
  have ht := fun w h => hts w (List.mem_cons_of_mem _ h)
  have hown : s.vm.findClass R_LW = some m.cls := findClass_of_methodNamed B.named
  have hlocks := B.notSynchronized
  subst hsz
  have hAd : ∀ q, q < NP → AS ad s.heap.size (ad q) := fun q h => Or.inl ⟨q, h, rfl⟩
  have hA : ∀ q : Nat, s.heap.size ≤ q → AS ad s.heap.size q := fun q h => Or.inr h
  have hAS : ∀ z : Nat, s.heap.size ≤ z → ∀ q : Nat, AS ad z q → AS ad s.heap.size q := fun z h q hq => hq.elim Or.inl (fun g => Or.inr (Nat.le_trans h g))
  generalize hAe : AS ad s.heap.size = A at hAd hA hAS hZ ⊢
  have hS : va_S A s.heap s.heap [] := va_S.rf
  have hl := lv_entry ([.ref (ad 0), .int a1, .int a2, .int a3, .ref (ad 38)]) (n := 6) (Nat.le_of_ble_eq_true rfl)
  rw [lg_entry_eq]
  generalize (lg_sl ([.ref (ad 0), .int a1, .int a2, .int a3, .ref (ad 38)]) ++ List.replicate (6 - (lg_sl ([.ref (ad 0), .int a1, .int a2, .int a3, .ref (ad 38)])).length) Slot.unset).toArray = ls at hl ⊢
  have hl : lv_has ls 6 [(0, .ref (ad 0)), (1, .int a1), (2, .int a2), (3, .int a3), (4, .ref (ad 38))] := hl
  have hf := (f_LW_bar_s a1 a2 a3 S).symm
  generalize hQ : MQ below _ _ s _ _ _ = Q
  refine lv_aload hx hb d_LW_bar_0 (lv_at hl 4 rfl) ?_
  refine lv_iconst (v := 0) hx hb d_LW_bar_2 (by decide) ?_
  refine lv_aload_n hx hb d_LW_bar_3 rfl (lv_at hl 0 rfl) ?_
  refine lv_iload_n hx hb d_LW_bar_4 rfl (lv_at hl 1 rfl) ?_
  refine lv_iload_n hx hb d_LW_bar_5 rfl (lv_at hl 2 rfl) ?_
  refine lv_iload_n hx hb d_LW_bar_6 rfl (lv_at hl 3 rfl) ?_
  refine vx_calli (vx_runV (As := [.int a1, .int a2, .int a3]) (rest := [.int (0 : Int32), .ref (ad 38)]) ⟨hx, hb, hml, hown, ht⟩ (c_MK_bar l hlt D cA ad hI s.heap.size a1 a2 a3 S (fun hn => hs (by rw [hn] at hf; exact hf.symm))) (cwV 3 ht (good_G (gV mM_LW_28 mI_MK_bar mV_MK_bar mN_MK mk_MK_bar)) rfl rfl rfl (by decide +kernel) ⟨Nat.le_of_ble_eq_true rfl, Nat.le_of_ble_eq_true rfl⟩) ⟨fun a U g mk q => ⟨q.1, q.2.1, q.2.2.1, va_K.moved (u := U) (U := U.calling g mk a) (Vm.Alike.refl U.vm) q.2.2.2.1, ZX.call q.2.2.2.2⟩, va_recv hK hP (ci := 0) (q0 := 0) rfl Xa_0, fun U hU hW => ⟨rfl, by rw [hU], by rw [hU]; exact hP, va_K.moved hW.alike hK, hZ.to hS (hAS _ hS.1) hU hW⟩⟩ rfl rfl hl.1 rfl (lv_room (Nat.le_of_ble_eq_true rfl)) d_LW_bar_7 ⟨Nat.le_of_ble_eq_true rfl, Nat.le_of_ble_eq_true rfl⟩) hS (fun q _ h => hAS _ hS.1 q h) (fun q h => hAS _ hS.1 q h) (fun q _ h => hAS _ hS.1 q h) (fun E ce q9 kx tx H locs ht9 hvm9 hw9 hB9 hz9 hk9 hS hce hcv hcl => ?_) (fun r1 u1 t H locs ht9 hvm hw hB hz1 hk1 hS => ?_)
  · obtain ⟨hE9, hP, hK9⟩ := hB9
    rw [ht9] at hP
    obtain ⟨hw9, hk9⟩ := hw9
    rw [hw9, Option.bind_some, Sum.elim_inl] at hf
    subst hk9
    have hE9 : E = R_IAE := hE9
    subst hE9
    refine vx_catch (name := R_IAE) hown [] ⟨0, 19, 22, 22⟩ [] htab (fun z hz => nomatch hz) (by decide) (by decide) (ht _ mK_LW_22) (useCD rfl (hZ.2.2.2.1 _ mCA1 rfl)) hce hcv hcl ?_
    refine lv_astore (lv' := [(5, .ref q9), (0, .ref (ad 0)), (1, .int a1), (2, .int a2), (3, .int a3), (4, .ref (ad 38))]) hx hb d_LW_bar_22 hl (by decide) rfl (fun ls hl => ?_)
    refine lv_iconst (v := 1) hx hb d_LW_bar_24 (by decide) ?_
    rw [← hQ]
    exact W.iret (v := (1 : Int32)) hx hb hr (fun t ht hW => ⟨⟨(1 : Int32), S, rfl, hf.symm, by rw [ht]; exact hP, va_K.moved hW.alike hK⟩, hS.F ht⟩) hS.2.2 d_LW_bar_25
  obtain ⟨hP, hK9⟩ := hB
  rw [ht9] at hP
  obtain ⟨hw, hz1⟩ := hw
  rw [hw, Option.bind_some, Sum.elim_inr] at hf
  dsimp only at hf
  refine lv_if_eq (tgt := 17) hx hb d_LW_bar_10 (by decide) (fun c1 => ?_) (fun c1 => ?_)
  · rw [if_pos c1] at hf
    refine lv_lconst (v := 0) hx hb d_LW_bar_17 (by decide) ?_
    by_cases b2 : oob (0 : Int32) 1
    · rw [if_pos b2] at hf; exact absurd hf.symm hs
    rw [if_neg b2] at hf
    refine va_last hx hb hK hP (X_D hI hAd) hS 38 1 Xa_38 rfl b2 d_LW_bar_18 (fun H locs hP _ hS => ?_)
    replace hP := X_stL (by decide) Xc_38 hP
    refine lv_goto (tgt := 26) hx hb d_LW_bar_19 (by decide) ?_
    refine lv_iconst (v := 0) hx hb d_LW_bar_26 (by decide) ?_
    rw [← hQ]
    exact W.iret (v := (0 : Int32)) hx hb hr (fun t ht hW => ⟨⟨(0 : Int32), wL u1 38 (0 : Int32).toNatClampNeg (0 : Int64), rfl, hf.symm, by rw [ht]; exact hP, va_K.moved hW.alike hK⟩, hS.F ht⟩) hS.2.2 d_LW_bar_27
  · rw [if_neg c1] at hf
    refine lv_lconst (v := 1) hx hb d_LW_bar_13 (by decide) ?_
    refine lv_goto (tgt := 18) hx hb d_LW_bar_14 (by decide) ?_
    by_cases b3 : oob (0 : Int32) 1
    · rw [if_pos b3] at hf; exact absurd hf.symm hs
    rw [if_neg b3] at hf
    refine va_last hx hb hK hP (X_D hI hAd) hS 38 1 Xa_38 rfl b3 d_LW_bar_18 (fun H locs hP _ hS => ?_)
    replace hP := X_stL (by decide) Xc_38 hP
    refine lv_goto (tgt := 26) hx hb d_LW_bar_19 (by decide) ?_
    refine lv_iconst (v := 0) hx hb d_LW_bar_26 (by decide) ?_
    rw [← hQ]
    exact W.iret (v := (0 : Int32)) hx hb hr (fun t ht hW => ⟨⟨(0 : Int32), wL u1 38 (0 : Int32).toNatClampNeg (1 : Int64), rfl, hf.symm, by rw [ht]; exact hP, va_K.moved hW.alike hK⟩, hS.F ht⟩) hS.2.2 d_LW_bar_27
set_option maxHeartbeats 4000000 in
set_option maxRecDepth 100000 in
theorem c_LW_top (l : Launch) (hlt : l.stackTraces = false) (D : va_G) (cA : Nat → ClassId) (ad : Nat → Nat) (hI : InjA ad) (sz : Nat) (a1 : Int32) (S : SS) (hs : f_LW_top a1 S ≠ none) : Met l y_LW_top w_LW_top ({ frames := 7, cells := 1, slots := 6, locals := 112 }) (va_Pc [.ref (ad 0), .int a1, .ref (ad 38)] (fun U => U.heap.size = sz ∧ va_P D vwCl (X cA ad S) U.heap ∧ va_K D vwCl (tysX cA) U ∧ ZX (AS ad sz) U)) (va_Qi (fun (r : Int32) (u : SS) => f_LW_top a1 S = some (r, u)) (fun (u : SS) t => va_P D vwCl (X cA ad u) t.heap ∧ va_K D vwCl (tysX cA) t) (AS ad sz)) 1 6 (AS ad sz) := by
  refine gz_ofWH (cc := b_LW_top) (maxL := 4) (ret := (some .int)) (hh := [(0, 9, 12, 22)]) (by decide) rfl ?_
  intro p e s m args below meth c s₁ B hml htab hv
  obtain ⟨rfl, hsz, hP, hK, hZ⟩ := hv
  have hx := B.exec
  have hb := B.bytes
  have hr := B.returns
  have hts := atoms_spec (ws := w_LW_top) B.pre
  have ht := fun w h => hts w (List.mem_cons_of_mem _ h)
  have hown : s.vm.findClass R_LW = some m.cls := findClass_of_methodNamed B.named
  have hlocks := B.notSynchronized
  subst hsz
  have hAd : ∀ q, q < NP → AS ad s.heap.size (ad q) := fun q h => Or.inl ⟨q, h, rfl⟩
  have hA : ∀ q : Nat, s.heap.size ≤ q → AS ad s.heap.size q := fun q h => Or.inr h
  have hAS : ∀ z : Nat, s.heap.size ≤ z → ∀ q : Nat, AS ad z q → AS ad s.heap.size q := fun z h q hq => hq.elim Or.inl (fun g => Or.inr (Nat.le_trans h g))
  generalize hAe : AS ad s.heap.size = A at hAd hA hAS hZ ⊢
  have hS : va_S A s.heap s.heap [] := va_S.rf
  have hl := lv_entry ([.ref (ad 0), .int a1, .ref (ad 38)]) (n := 4) (Nat.le_of_ble_eq_true rfl)
  rw [lg_entry_eq]
  generalize (lg_sl ([.ref (ad 0), .int a1, .ref (ad 38)]) ++ List.replicate (4 - (lg_sl ([.ref (ad 0), .int a1, .ref (ad 38)])).length) Slot.unset).toArray = ls at hl ⊢
  have hl : lv_has ls 4 [(0, .ref (ad 0)), (1, .int a1), (2, .ref (ad 38))] := hl
  have hf := (f_LW_top_s a1 S).symm
  generalize hQ : MQ below _ _ s _ _ _ = Q
  refine lv_aload_n hx hb d_LW_top_0 rfl (lv_at hl 2 rfl) ?_
  refine lv_iconst (v := 0) hx hb d_LW_top_1 (by decide) ?_
  refine lv_aload_n hx hb d_LW_top_2 rfl (lv_at hl 0 rfl) ?_
  refine lv_iload_n hx hb d_LW_top_3 rfl (lv_at hl 1 rfl) ?_
  refine vx_calli (vx_runV (As := [.int a1]) (rest := [.int (0 : Int32), .ref (ad 38)]) ⟨hx, hb, hml, hown, ht⟩ (c_MK_top l hlt D cA ad hI s.heap.size a1 S (fun hn => hs (by rw [hn] at hf; exact hf.symm))) (cwV 1 ht (good_G (gV mM_LW_31 mI_MK_top mV_MK_top mN_MK mk_MK_top)) rfl rfl rfl (by decide +kernel) ⟨Nat.le_of_ble_eq_true rfl, Nat.le_of_ble_eq_true rfl⟩) ⟨fun a U g mk q => ⟨q.1, q.2.1, q.2.2.1, va_K.moved (u := U) (U := U.calling g mk a) (Vm.Alike.refl U.vm) q.2.2.2.1, ZX.call q.2.2.2.2⟩, va_recv hK hP (ci := 0) (q0 := 0) rfl Xa_0, fun U hU hW => ⟨rfl, by rw [hU], by rw [hU]; exact hP, va_K.moved hW.alike hK, hZ.to hS (hAS _ hS.1) hU hW⟩⟩ rfl rfl hl.1 rfl (lv_room (Nat.le_of_ble_eq_true rfl)) d_LW_top_4 ⟨Nat.le_of_ble_eq_true rfl, Nat.le_of_ble_eq_true rfl⟩) hS (fun q _ h => hAS _ hS.1 q h) (fun q h => hAS _ hS.1 q h) (fun q _ h => hAS _ hS.1 q h) (fun E ce q9 kx tx H locs ht9 hvm9 hw9 hB9 hz9 hk9 hS hce hcv hcl => ?_) (fun r1 u1 t H locs ht9 hvm hw hB hz1 hk1 hS => ?_)
  · obtain ⟨hE9, hP, hK9⟩ := hB9
    rw [ht9] at hP
    obtain ⟨hw9, hk9⟩ := hw9
    rw [hw9, Option.bind_some, Sum.elim_inl] at hf
    subst hk9
    have hE9 : E = R_IAE := hE9
    subst hE9
    refine vx_catch (name := R_IAE) hown [] ⟨0, 9, 12, 22⟩ [] htab (fun z hz => nomatch hz) (by decide) (by decide) (ht _ mK_LW_22) (useCD rfl (hZ.2.2.2.1 _ mCA1 rfl)) hce hcv hcl ?_
    refine lv_astore_n (lv' := [(3, .ref q9), (0, .ref (ad 0)), (1, .int a1), (2, .ref (ad 38))]) hx hb d_LW_top_12 rfl hl (by decide) rfl (fun ls hl => ?_)
    refine lv_iconst (v := 1) hx hb d_LW_top_13 (by decide) ?_
    rw [← hQ]
    exact W.iret (v := (1 : Int32)) hx hb hr (fun t ht hW => ⟨⟨(1 : Int32), S, rfl, hf.symm, by rw [ht]; exact hP, va_K.moved hW.alike hK⟩, hS.F ht⟩) hS.2.2 d_LW_top_14
  obtain ⟨hP, hK9⟩ := hB
  rw [ht9] at hP
  rw [hw, Option.bind_some, Sum.elim_inr] at hf
  dsimp only at hf
  refine lv_i2l hx hb d_LW_top_7 rfl ?_
  by_cases b1 : oob (0 : Int32) 1
  · rw [if_pos b1] at hf; exact absurd hf.symm hs
  rw [if_neg b1] at hf
  refine va_last hx hb hK hP (X_D hI hAd) hS 38 1 Xa_38 rfl b1 d_LW_top_8 (fun H locs hP _ hS => ?_)
  replace hP := X_stL (by decide) Xc_38 hP
  refine lv_goto (tgt := 15) hx hb d_LW_top_9 (by decide) ?_
  refine lv_iconst (v := 0) hx hb d_LW_top_15 (by decide) ?_
  rw [← hQ]
  exact W.iret (v := (0 : Int32)) hx hb hr (fun t ht hW => ⟨⟨(0 : Int32), wL u1 38 (0 : Int32).toNatClampNeg r1.toInt64, rfl, hf.symm, by rw [ht]; exact hP, va_K.moved hW.alike hK⟩, hS.F ht⟩) hS.2.2 d_LW_top_16
set_option maxHeartbeats 4000000 in
set_option maxRecDepth 100000 in
theorem c_LW_run (l : Launch) (hlt : l.stackTraces = false) (D : va_G) (cA : Nat → ClassId) (ad : Nat → Nat) (hI : InjA ad) (sz : Nat) (a1 : Int32) (S : SS) (hs : f_LW_run a1 S ≠ none) : Met l y_LW_run w_LW_run ({ frames := 7, cells := 1, slots := 6, locals := 162 }) (va_Pc [.ref (ad 0), .int a1, .ref (ad 38)] (fun U => U.heap.size = sz ∧ va_P D vwCl (X cA ad S) U.heap ∧ va_K D vwCl (tysX cA) U ∧ ZX (AS ad sz) U)) (va_Qi (fun (r : Int32) (u : SS) => f_LW_run a1 S = some (r, u)) (fun (u : SS) t => va_P D vwCl (X cA ad u) t.heap ∧ va_K D vwCl (tysX cA) t) (AS ad sz)) 1 6 (AS ad sz) := by
  refine gz_ofWH (cc := b_LW_run) (maxL := 4) (ret := (some .int)) (hh := [(0, 9, 12, 22), (0, 9, 15, 13)]) (by decide) rfl ?_
  intro p e s m args below meth c s₁ B hml htab hv
  obtain ⟨rfl, hsz, hP, hK, hZ⟩ := hv
  have hx := B.exec
  have hb := B.bytes
  have hr := B.returns
  have hts := atoms_spec (ws := w_LW_run) B.pre
  have ht := fun w h => hts w (List.mem_cons_of_mem _ h)
  have hown : s.vm.findClass R_LW = some m.cls := findClass_of_methodNamed B.named
  have hlocks := B.notSynchronized
  subst hsz
  have hAd : ∀ q, q < NP → AS ad s.heap.size (ad q) := fun q h => Or.inl ⟨q, h, rfl⟩
  have hA : ∀ q : Nat, s.heap.size ≤ q → AS ad s.heap.size q := fun q h => Or.inr h
  have hAS : ∀ z : Nat, s.heap.size ≤ z → ∀ q : Nat, AS ad z q → AS ad s.heap.size q := fun z h q hq => hq.elim Or.inl (fun g => Or.inr (Nat.le_trans h g))
  generalize hAe : AS ad s.heap.size = A at hAd hA hAS hZ ⊢
  have hS : va_S A s.heap s.heap [] := va_S.rf
  have hl := lv_entry ([.ref (ad 0), .int a1, .ref (ad 38)]) (n := 4) (Nat.le_of_ble_eq_true rfl)
  rw [lg_entry_eq]
  generalize (lg_sl ([.ref (ad 0), .int a1, .ref (ad 38)]) ++ List.replicate (4 - (lg_sl ([.ref (ad 0), .int a1, .ref (ad 38)])).length) Slot.unset).toArray = ls at hl ⊢
  have hl : lv_has ls 4 [(0, .ref (ad 0)), (1, .int a1), (2, .ref (ad 38))] := hl
  have hf := (f_LW_run_s a1 S).symm
  generalize hQ : MQ below _ _ s _ _ _ = Q
  refine lv_aload_n hx hb d_LW_run_0 rfl (lv_at hl 2 rfl) ?_
  refine lv_iconst (v := 0) hx hb d_LW_run_1 (by decide) ?_
  refine lv_aload_n hx hb d_LW_run_2 rfl (lv_at hl 0 rfl) ?_
  refine lv_iload_n hx hb d_LW_run_3 rfl (lv_at hl 1 rfl) ?_
  refine vx_calli (vx_runV (As := [.int a1]) (rest := [.int (0 : Int32), .ref (ad 38)]) ⟨hx, hb, hml, hown, ht⟩ (c_MK_run l hlt D cA ad hI s.heap.size a1 S (fun hn => hs (by rw [hn] at hf; exact hf.symm))) (cwV 1 ht (good_G (gV mM_LW_34 mI_MK_run mV_MK_run mN_MK mk_MK_run)) rfl rfl rfl (by decide +kernel) ⟨Nat.le_of_ble_eq_true rfl, Nat.le_of_ble_eq_true rfl⟩) ⟨fun a U g mk q => ⟨q.1, q.2.1, q.2.2.1, va_K.moved (u := U) (U := U.calling g mk a) (Vm.Alike.refl U.vm) q.2.2.2.1, ZX.call q.2.2.2.2⟩, va_recv hK hP (ci := 0) (q0 := 0) rfl Xa_0, fun U hU hW => ⟨rfl, by rw [hU], by rw [hU]; exact hP, va_K.moved hW.alike hK, hZ.to hS (hAS _ hS.1) hU hW⟩⟩ rfl rfl hl.1 rfl (lv_room (Nat.le_of_ble_eq_true rfl)) d_LW_run_4 ⟨Nat.le_of_ble_eq_true rfl, Nat.le_of_ble_eq_true rfl⟩) hS (fun q _ h => hAS _ hS.1 q h) (fun q h => hAS _ hS.1 q h) (fun q _ h => hAS _ hS.1 q h) (fun E ce q9 kx tx H locs ht9 hvm9 hw9 hB9 hz9 hk9 hS hce hcv hcl => ?_) (fun r1 u1 t H locs ht9 hvm hw hB hz1 hk1 hS => ?_)
  · obtain ⟨hE9, hP, hK9⟩ := hB9
    rw [ht9] at hP
    obtain ⟨hw9, hk9⟩ := hw9
    rw [hw9, Option.bind_some, Sum.elim_inl] at hf
    rcases hk9 with hk9 | hk9
    · subst hk9
      rw [if_pos rfl] at hf
      have hE9 : E = R_IAE := hE9
      subst hE9
      refine vx_catch (name := R_IAE) hown [] ⟨0, 9, 12, 22⟩ [⟨0, 9, 15, 13⟩] htab (fun z hz => nomatch hz) (by decide) (by decide) (ht _ mK_LW_22) (useCD rfl (hZ.2.2.2.1 _ mCA1 rfl)) hce hcv hcl ?_
      refine lv_astore_n (lv' := [(3, .ref q9), (0, .ref (ad 0)), (1, .int a1), (2, .ref (ad 38))]) hx hb d_LW_run_12 rfl hl (by decide) rfl (fun ls hl => ?_)
      refine lv_iconst (v := 1) hx hb d_LW_run_13 (by decide) ?_
      rw [← hQ]
      exact W.iret (v := (1 : Int32)) hx hb hr (fun t ht hW => ⟨⟨(1 : Int32), S, rfl, hf.symm, by rw [ht]; exact hP, va_K.moved hW.alike hK⟩, hS.F ht⟩) hS.2.2 d_LW_run_14
    · subst hk9
      rw [if_neg (by decide)] at hf
      have hE9 : E = R_ISE := hE9
      subst hE9
      refine vx_catch (name := R_ISE) hown [⟨0, 9, 12, 22⟩] ⟨0, 9, 15, 13⟩ [] htab (fun z hz => by rw [List.mem_singleton.mp hz]; exact Or.inr ⟨by decide, R_IAE, ht _ mK_LW_22, hZ.2.2.2.2⟩) (by decide) (by decide) (ht _ mK_LW_13) (useCD rfl (hZ.2.2.2.1 _ mCA2 rfl)) hce hcv hcl ?_
      refine lv_astore_n (lv' := [(3, .ref q9), (0, .ref (ad 0)), (1, .int a1), (2, .ref (ad 38))]) hx hb d_LW_run_15 rfl hl (by decide) rfl (fun ls hl => ?_)
      refine lv_iconst (v := 2) hx hb d_LW_run_16 (by decide) ?_
      rw [← hQ]
      exact W.iret (v := (2 : Int32)) hx hb hr (fun t ht hW => ⟨⟨(2 : Int32), S, rfl, hf.symm, by rw [ht]; exact hP, va_K.moved hW.alike hK⟩, hS.F ht⟩) hS.2.2 d_LW_run_17
  obtain ⟨hP, hK9⟩ := hB
  rw [ht9] at hP
  rw [hw, Option.bind_some, Sum.elim_inr] at hf
  dsimp only at hf
  refine lv_i2l hx hb d_LW_run_7 rfl ?_
  by_cases b1 : oob (0 : Int32) 1
  · rw [if_pos b1] at hf; exact absurd hf.symm hs
  rw [if_neg b1] at hf
  refine va_last hx hb hK hP (X_D hI hAd) hS 38 1 Xa_38 rfl b1 d_LW_run_8 (fun H locs hP _ hS => ?_)
  replace hP := X_stL (by decide) Xc_38 hP
  refine lv_goto (tgt := 18) hx hb d_LW_run_9 (by decide) ?_
  refine lv_iconst (v := 0) hx hb d_LW_run_18 (by decide) ?_
  rw [← hQ]
  exact W.iret (v := (0 : Int32)) hx hb hr (fun t ht hW => ⟨⟨(0 : Int32), wL u1 38 (0 : Int32).toNatClampNeg r1.toInt64, rfl, hf.symm, by rw [ht]; exact hP, va_K.moved hW.alike hK⟩, hS.F ht⟩) hS.2.2 d_LW_run_19
set_option maxHeartbeats 4000000 in
set_option maxRecDepth 100000 in
theorem c_LW_cut (l : Launch) (hlt : l.stackTraces = false) (D : va_G) (cA : Nat → ClassId) (ad : Nat → Nat) (hI : InjA ad) (sz : Nat) (a1 : Int32) (a2 : Int32) (S : SS) (hs : f_LW_cut a1 a2 S ≠ none) : Met l y_LW_cut w_LW_cut ({ frames := 8, cells := 2, slots := 12, locals := 133 }) (va_Pc [.ref (ad 0), .int a1, .int a2, .ref (ad 38)] (fun U => U.heap.size = sz ∧ va_P D vwCl (X cA ad S) U.heap ∧ va_K D vwCl (tysX cA) U ∧ ZX (AS ad sz) U)) (va_Qi (fun (r : Int32) (u : SS) => f_LW_cut a1 a2 S = some (r, u)) (fun (u : SS) t => va_P D vwCl (X cA ad u) t.heap ∧ va_K D vwCl (tysX cA) t) (AS ad sz)) 2 12 (AS ad sz) := by
  refine gz_ofWH (cc := b_LW_cut) (maxL := 5) (ret := (some .int)) (hh := [(0, 10, 13, 22)]) (by decide) rfl ?_
  intro p e s m args below meth c s₁ B hml htab hv
  obtain ⟨rfl, hsz, hP, hK, hZ⟩ := hv
  have hx := B.exec
  have hb := B.bytes
  have hr := B.returns
  have hts := atoms_spec (ws := w_LW_cut) B.pre
  have ht := fun w h => hts w (List.mem_cons_of_mem _ h)
  have hown : s.vm.findClass R_LW = some m.cls := findClass_of_methodNamed B.named
  have hlocks := B.notSynchronized
  subst hsz
  have hAd : ∀ q, q < NP → AS ad s.heap.size (ad q) := fun q h => Or.inl ⟨q, h, rfl⟩
  have hA : ∀ q : Nat, s.heap.size ≤ q → AS ad s.heap.size q := fun q h => Or.inr h
  have hAS : ∀ z : Nat, s.heap.size ≤ z → ∀ q : Nat, AS ad z q → AS ad s.heap.size q := fun z h q hq => hq.elim Or.inl (fun g => Or.inr (Nat.le_trans h g))
  generalize hAe : AS ad s.heap.size = A at hAd hA hAS hZ ⊢
  have hS : va_S A s.heap s.heap [] := va_S.rf
  have hl := lv_entry ([.ref (ad 0), .int a1, .int a2, .ref (ad 38)]) (n := 5) (Nat.le_of_ble_eq_true rfl)
  rw [lg_entry_eq]
  generalize (lg_sl ([.ref (ad 0), .int a1, .int a2, .ref (ad 38)]) ++ List.replicate (5 - (lg_sl ([.ref (ad 0), .int a1, .int a2, .ref (ad 38)])).length) Slot.unset).toArray = ls at hl ⊢
  have hl : lv_has ls 5 [(0, .ref (ad 0)), (1, .int a1), (2, .int a2), (3, .ref (ad 38))] := hl
  have hf := (f_LW_cut_s a1 a2 S).symm
  generalize hQ : MQ below _ _ s _ _ _ = Q
  refine lv_aload_n hx hb d_LW_cut_0 rfl (lv_at hl 3 rfl) ?_
  refine lv_iconst (v := 0) hx hb d_LW_cut_1 (by decide) ?_
  refine lv_aload_n hx hb d_LW_cut_2 rfl (lv_at hl 0 rfl) ?_
  refine lv_iload_n hx hb d_LW_cut_3 rfl (lv_at hl 1 rfl) ?_
  refine lv_iload_n hx hb d_LW_cut_4 rfl (lv_at hl 2 rfl) ?_
  refine vx_calli (vx_runV (As := [.int a1, .int a2]) (rest := [.int (0 : Int32), .ref (ad 38)]) ⟨hx, hb, hml, hown, ht⟩ (c_MK_cut l hlt D cA ad hI s.heap.size a1 a2 S (fun hn => hs (by rw [hn] at hf; exact hf.symm))) (cwV 2 ht (good_G (gV mM_LW_37 mI_MK_cut mV_MK_cut mN_MK mk_MK_cut)) rfl rfl rfl (by decide +kernel) ⟨Nat.le_of_ble_eq_true rfl, Nat.le_of_ble_eq_true rfl⟩) ⟨fun a U g mk q => ⟨q.1, q.2.1, q.2.2.1, va_K.moved (u := U) (U := U.calling g mk a) (Vm.Alike.refl U.vm) q.2.2.2.1, ZX.call q.2.2.2.2⟩, va_recv hK hP (ci := 0) (q0 := 0) rfl Xa_0, fun U hU hW => ⟨rfl, by rw [hU], by rw [hU]; exact hP, va_K.moved hW.alike hK, hZ.to hS (hAS _ hS.1) hU hW⟩⟩ rfl rfl hl.1 rfl (lv_room (Nat.le_of_ble_eq_true rfl)) d_LW_cut_5 ⟨Nat.le_of_ble_eq_true rfl, Nat.le_of_ble_eq_true rfl⟩) hS (fun q _ h => hAS _ hS.1 q h) (fun q h => hAS _ hS.1 q h) (fun q _ h => hAS _ hS.1 q h) (fun E ce q9 kx tx H locs ht9 hvm9 hw9 hB9 hz9 hk9 hS hce hcv hcl => ?_) (fun r1 _ t H locs ht9 hvm hw hB hz1 hk1 hS => ?_)
  · obtain ⟨hE9, hP, hK9⟩ := hB9
    rw [ht9] at hP
    obtain ⟨hw9, hk9⟩ := hw9
    rw [hw9, Option.bind_some, Sum.elim_inl] at hf
    subst hk9
    have hE9 : E = R_IAE := hE9
    subst hE9
    refine vx_catch (name := R_IAE) hown [] ⟨0, 10, 13, 22⟩ [] htab (fun z hz => nomatch hz) (by decide) (by decide) (ht _ mK_LW_22) (useCD rfl (hZ.2.2.2.1 _ mCA1 rfl)) hce hcv hcl ?_
    refine lv_astore (lv' := [(4, .ref q9), (0, .ref (ad 0)), (1, .int a1), (2, .int a2), (3, .ref (ad 38))]) hx hb d_LW_cut_13 hl (by decide) rfl (fun ls hl => ?_)
    refine lv_iconst (v := 1) hx hb d_LW_cut_15 (by decide) ?_
    rw [← hQ]
    exact W.iret (v := (1 : Int32)) hx hb hr (fun t ht hW => ⟨⟨(1 : Int32), S, rfl, hf.symm, by rw [ht]; exact hP, va_K.moved hW.alike hK⟩, hS.F ht⟩) hS.2.2 d_LW_cut_16
  obtain ⟨hP, hK9⟩ := hB
  rw [ht9] at hP
  rw [hw, Option.bind_some, Sum.elim_inr] at hf
  refine lv_i2l hx hb d_LW_cut_8 rfl ?_
  by_cases b1 : oob (0 : Int32) 1
  · rw [if_pos b1] at hf; exact absurd hf.symm hs
  rw [if_neg b1] at hf
  refine va_last hx hb hK hP (X_D hI hAd) hS 38 1 Xa_38 rfl b1 d_LW_cut_9 (fun H locs hP _ hS => ?_)
  replace hP := X_stL (by decide) Xc_38 hP
  refine lv_goto (tgt := 17) hx hb d_LW_cut_10 (by decide) ?_
  refine lv_iconst (v := 0) hx hb d_LW_cut_17 (by decide) ?_
  rw [← hQ]
  exact W.iret (v := (0 : Int32)) hx hb hr (fun t ht hW => ⟨⟨(0 : Int32), wL S 38 (0 : Int32).toNatClampNeg r1.toInt64, rfl, hf.symm, by rw [ht]; exact hP, va_K.moved hW.alike hK⟩, hS.F ht⟩) hS.2.2 d_LW_cut_18
set_option maxHeartbeats 4000000 in
set_option maxRecDepth 100000 in
theorem c_LW_holds (l : Launch) (hlt : l.stackTraces = false) (D : va_G) (cA : Nat → ClassId) (ad : Nat → Nat) (hI : InjA ad) (sz : Nat) (a1 : Int32) (a2 : Int32) (a3 : Int32) (S : SS) (hs : f_LW_holds a1 a2 a3 S ≠ none) : Met l y_LW_holds w_LW_holds ({ frames := 8, cells := 3, slots := 18, locals := 134 }) (va_Pc [.ref (ad 0), .int a1, .int a2, .int a3, .ref (ad 38)] (fun U => U.heap.size = sz ∧ va_P D vwCl (X cA ad S) U.heap ∧ va_K D vwCl (tysX cA) U ∧ ZX (AS ad sz) U)) (va_Qi (fun (r : Int32) (u : SS) => f_LW_holds a1 a2 a3 S = some (r, u)) (fun (u : SS) t => va_P D vwCl (X cA ad u) t.heap ∧ va_K D vwCl (tysX cA) t) (AS ad sz)) 3 18 (AS ad sz) := by
  refine gz_ofWH (cc := b_LW_holds) (maxL := 6) (ret := (some .int)) (hh := [(0, 19, 22, 22)]) (by decide) rfl ?_
  intro p e s m args below meth c s₁ B hml htab hv
  obtain ⟨rfl, hsz, hP, hK, hZ⟩ := hv
  have hx := B.exec
  have hb := B.bytes
  have hr := B.returns
  have hts := atoms_spec (ws := w_LW_holds) B.pre
  have ht := fun w h => hts w (List.mem_cons_of_mem _ h)
  have hown : s.vm.findClass R_LW = some m.cls := findClass_of_methodNamed B.named
  have hlocks := B.notSynchronized
  subst hsz
  have hAd : ∀ q, q < NP → AS ad s.heap.size (ad q) := fun q h => Or.inl ⟨q, h, rfl⟩
  have hA : ∀ q : Nat, s.heap.size ≤ q → AS ad s.heap.size q := fun q h => Or.inr h
  have hAS : ∀ z : Nat, s.heap.size ≤ z → ∀ q : Nat, AS ad z q → AS ad s.heap.size q := fun z h q hq => hq.elim Or.inl (fun g => Or.inr (Nat.le_trans h g))
  generalize hAe : AS ad s.heap.size = A at hAd hA hAS hZ ⊢
  have hS : va_S A s.heap s.heap [] := va_S.rf
  have hl := lv_entry ([.ref (ad 0), .int a1, .int a2, .int a3, .ref (ad 38)]) (n := 6) (Nat.le_of_ble_eq_true rfl)
  rw [lg_entry_eq]
  generalize (lg_sl ([.ref (ad 0), .int a1, .int a2, .int a3, .ref (ad 38)]) ++ List.replicate (6 - (lg_sl ([.ref (ad 0), .int a1, .int a2, .int a3, .ref (ad 38)])).length) Slot.unset).toArray = ls at hl ⊢
  have hl : lv_has ls 6 [(0, .ref (ad 0)), (1, .int a1), (2, .int a2), (3, .int a3), (4, .ref (ad 38))] := hl
  have hf := (f_LW_holds_s a1 a2 a3 S).symm
  generalize hQ : MQ below _ _ s _ _ _ = Q
  refine lv_aload hx hb d_LW_holds_0 (lv_at hl 4 rfl) ?_
  refine lv_iconst (v := 0) hx hb d_LW_holds_2 (by decide) ?_
  refine lv_aload_n hx hb d_LW_holds_3 rfl (lv_at hl 0 rfl) ?_
  refine lv_iload_n hx hb d_LW_holds_4 rfl (lv_at hl 1 rfl) ?_
  refine lv_iload_n hx hb d_LW_holds_5 rfl (lv_at hl 2 rfl) ?_
  refine lv_iload_n hx hb d_LW_holds_6 rfl (lv_at hl 3 rfl) ?_
  refine vx_calli (vx_runV (As := [.int a1, .int a2, .int a3]) (rest := [.int (0 : Int32), .ref (ad 38)]) ⟨hx, hb, hml, hown, ht⟩ (c_MK_holds l hlt D cA ad hI s.heap.size a1 a2 a3 S (fun hn => hs (by rw [hn] at hf; exact hf.symm))) (cwV 3 ht (good_G (gV mM_LW_41 mI_MK_holds mV_MK_holds mN_MK mk_MK_holds)) rfl rfl rfl (by decide +kernel) ⟨Nat.le_of_ble_eq_true rfl, Nat.le_of_ble_eq_true rfl⟩) ⟨fun a U g mk q => ⟨q.1, q.2.1, q.2.2.1, va_K.moved (u := U) (U := U.calling g mk a) (Vm.Alike.refl U.vm) q.2.2.2.1, ZX.call q.2.2.2.2⟩, va_recv hK hP (ci := 0) (q0 := 0) rfl Xa_0, fun U hU hW => ⟨rfl, by rw [hU], by rw [hU]; exact hP, va_K.moved hW.alike hK, hZ.to hS (hAS _ hS.1) hU hW⟩⟩ rfl rfl hl.1 rfl (lv_room (Nat.le_of_ble_eq_true rfl)) d_LW_holds_7 ⟨Nat.le_of_ble_eq_true rfl, Nat.le_of_ble_eq_true rfl⟩) hS (fun q _ h => hAS _ hS.1 q h) (fun q h => hAS _ hS.1 q h) (fun q _ h => hAS _ hS.1 q h) (fun E ce q9 kx tx H locs ht9 hvm9 hw9 hB9 hz9 hk9 hS hce hcv hcl => ?_) (fun r1 _ t H locs ht9 hvm hw hB hz1 hk1 hS => ?_)
  · obtain ⟨hE9, hP, hK9⟩ := hB9
    rw [ht9] at hP
    obtain ⟨hw9, hk9⟩ := hw9
    rw [hw9, Option.bind_some, Sum.elim_inl] at hf
    subst hk9
    have hE9 : E = R_IAE := hE9
    subst hE9
    refine vx_catch (name := R_IAE) hown [] ⟨0, 19, 22, 22⟩ [] htab (fun z hz => nomatch hz) (by decide) (by decide) (ht _ mK_LW_22) (useCD rfl (hZ.2.2.2.1 _ mCA1 rfl)) hce hcv hcl ?_
    refine lv_astore (lv' := [(5, .ref q9), (0, .ref (ad 0)), (1, .int a1), (2, .int a2), (3, .int a3), (4, .ref (ad 38))]) hx hb d_LW_holds_22 hl (by decide) rfl (fun ls hl => ?_)
    refine lv_iconst (v := 1) hx hb d_LW_holds_24 (by decide) ?_
    rw [← hQ]
    exact W.iret (v := (1 : Int32)) hx hb hr (fun t ht hW => ⟨⟨(1 : Int32), S, rfl, hf.symm, by rw [ht]; exact hP, va_K.moved hW.alike hK⟩, hS.F ht⟩) hS.2.2 d_LW_holds_25
  obtain ⟨hP, hK9⟩ := hB
  rw [ht9] at hP
  obtain ⟨hw, hz1⟩ := hw
  rw [hw, Option.bind_some, Sum.elim_inr] at hf
  refine lv_if_eq (tgt := 17) hx hb d_LW_holds_10 (by decide) (fun c1 => ?_) (fun c1 => ?_)
  · rw [if_pos c1] at hf
    refine lv_lconst (v := 0) hx hb d_LW_holds_17 (by decide) ?_
    by_cases b2 : oob (0 : Int32) 1
    · rw [if_pos b2] at hf; exact absurd hf.symm hs
    rw [if_neg b2] at hf
    refine va_last hx hb hK hP (X_D hI hAd) hS 38 1 Xa_38 rfl b2 d_LW_holds_18 (fun H locs hP _ hS => ?_)
    replace hP := X_stL (by decide) Xc_38 hP
    refine lv_goto (tgt := 26) hx hb d_LW_holds_19 (by decide) ?_
    refine lv_iconst (v := 0) hx hb d_LW_holds_26 (by decide) ?_
    rw [← hQ]
    exact W.iret (v := (0 : Int32)) hx hb hr (fun t ht hW => ⟨⟨(0 : Int32), wL S 38 (0 : Int32).toNatClampNeg (0 : Int64), rfl, hf.symm, by rw [ht]; exact hP, va_K.moved hW.alike hK⟩, hS.F ht⟩) hS.2.2 d_LW_holds_27
  · rw [if_neg c1] at hf
    refine lv_lconst (v := 1) hx hb d_LW_holds_13 (by decide) ?_
    refine lv_goto (tgt := 18) hx hb d_LW_holds_14 (by decide) ?_
    by_cases b3 : oob (0 : Int32) 1
    · rw [if_pos b3] at hf; exact absurd hf.symm hs
    rw [if_neg b3] at hf
    refine va_last hx hb hK hP (X_D hI hAd) hS 38 1 Xa_38 rfl b3 d_LW_holds_18 (fun H locs hP _ hS => ?_)
    replace hP := X_stL (by decide) Xc_38 hP
    refine lv_goto (tgt := 26) hx hb d_LW_holds_19 (by decide) ?_
    refine lv_iconst (v := 0) hx hb d_LW_holds_26 (by decide) ?_
    rw [← hQ]
    exact W.iret (v := (0 : Int32)) hx hb hr (fun t ht hW => ⟨⟨(0 : Int32), wL S 38 (0 : Int32).toNatClampNeg (1 : Int64), rfl, hf.symm, by rw [ht]; exact hP, va_K.moved hW.alike hK⟩, hS.F ht⟩) hS.2.2 d_LW_holds_27
set_option maxHeartbeats 4000000 in
set_option maxRecDepth 100000 in
theorem c_LW_fits (l : Launch) (hlt : l.stackTraces = false) (D : va_G) (cA : Nat → ClassId) (ad : Nat → Nat) (hI : InjA ad) (sz : Nat) (a1 : Int32) (a2 : Int32) (S : SS) (hs : f_LW_fits a1 a2 S ≠ none) : Met l y_LW_fits w_LW_fits ({ frames := 8, cells := 2, slots := 12, locals := 133 }) (va_Pc [.ref (ad 0), .int a1, .int a2, .ref (ad 38)] (fun U => U.heap.size = sz ∧ va_P D vwCl (X cA ad S) U.heap ∧ va_K D vwCl (tysX cA) U ∧ ZX (AS ad sz) U)) (va_Qi (fun (r : Int32) (u : SS) => f_LW_fits a1 a2 S = some (r, u)) (fun (u : SS) t => va_P D vwCl (X cA ad u) t.heap ∧ va_K D vwCl (tysX cA) t) (AS ad sz)) 2 12 (AS ad sz) := by
  refine gz_ofWH (cc := b_LW_fits) (maxL := 5) (ret := (some .int)) (hh := [(0, 17, 20, 22)]) (by decide) rfl ?_
  intro p e s m args below meth c s₁ B hml htab hv
  obtain ⟨rfl, hsz, hP, hK, hZ⟩ := hv
  have hx := B.exec
  have hb := B.bytes
  have hr := B.returns
  have hts := atoms_spec (ws := w_LW_fits) B.pre
  have ht := fun w h => hts w (List.mem_cons_of_mem _ h)
  have hown : s.vm.findClass R_LW = some m.cls := findClass_of_methodNamed B.named
  have hlocks := B.notSynchronized
  subst hsz
  have hAd : ∀ q, q < NP → AS ad s.heap.size (ad q) := fun q h => Or.inl ⟨q, h, rfl⟩
  have hA : ∀ q : Nat, s.heap.size ≤ q → AS ad s.heap.size q := fun q h => Or.inr h
  have hAS : ∀ z : Nat, s.heap.size ≤ z → ∀ q : Nat, AS ad z q → AS ad s.heap.size q := fun z h q hq => hq.elim Or.inl (fun g => Or.inr (Nat.le_trans h g))
  generalize hAe : AS ad s.heap.size = A at hAd hA hAS hZ ⊢
  have hS : va_S A s.heap s.heap [] := va_S.rf
  have hl := lv_entry ([.ref (ad 0), .int a1, .int a2, .ref (ad 38)]) (n := 5) (Nat.le_of_ble_eq_true rfl)
  rw [lg_entry_eq]
  generalize (lg_sl ([.ref (ad 0), .int a1, .int a2, .ref (ad 38)]) ++ List.replicate (5 - (lg_sl ([.ref (ad 0), .int a1, .int a2, .ref (ad 38)])).length) Slot.unset).toArray = ls at hl ⊢
  have hl : lv_has ls 5 [(0, .ref (ad 0)), (1, .int a1), (2, .int a2), (3, .ref (ad 38))] := hl
  have hf := (f_LW_fits_s a1 a2 S).symm
  generalize hQ : MQ below _ _ s _ _ _ = Q
  refine lv_aload_n hx hb d_LW_fits_0 rfl (lv_at hl 3 rfl) ?_
  refine lv_iconst (v := 0) hx hb d_LW_fits_1 (by decide) ?_
  refine lv_aload_n hx hb d_LW_fits_2 rfl (lv_at hl 0 rfl) ?_
  refine lv_iload_n hx hb d_LW_fits_3 rfl (lv_at hl 1 rfl) ?_
  refine lv_iload_n hx hb d_LW_fits_4 rfl (lv_at hl 2 rfl) ?_
  refine vx_calli (vx_runV (As := [.int a1, .int a2]) (rest := [.int (0 : Int32), .ref (ad 38)]) ⟨hx, hb, hml, hown, ht⟩ (c_MK_fits l hlt D cA ad hI s.heap.size a1 a2 S (fun hn => hs (by rw [hn] at hf; exact hf.symm))) (cwV 2 ht (good_G (gV mM_LW_45 mI_MK_fits mV_MK_fits mN_MK mk_MK_fits)) rfl rfl rfl (by decide +kernel) ⟨Nat.le_of_ble_eq_true rfl, Nat.le_of_ble_eq_true rfl⟩) ⟨fun a U g mk q => ⟨q.1, q.2.1, q.2.2.1, va_K.moved (u := U) (U := U.calling g mk a) (Vm.Alike.refl U.vm) q.2.2.2.1, ZX.call q.2.2.2.2⟩, va_recv hK hP (ci := 0) (q0 := 0) rfl Xa_0, fun U hU hW => ⟨rfl, by rw [hU], by rw [hU]; exact hP, va_K.moved hW.alike hK, hZ.to hS (hAS _ hS.1) hU hW⟩⟩ rfl rfl hl.1 rfl (lv_room (Nat.le_of_ble_eq_true rfl)) d_LW_fits_5 ⟨Nat.le_of_ble_eq_true rfl, Nat.le_of_ble_eq_true rfl⟩) hS (fun q _ h => hAS _ hS.1 q h) (fun q h => hAS _ hS.1 q h) (fun q _ h => hAS _ hS.1 q h) (fun E ce q9 kx tx H locs ht9 hvm9 hw9 hB9 hz9 hk9 hS hce hcv hcl => ?_) (fun r1 _ t H locs ht9 hvm hw hB hz1 hk1 hS => ?_)
  · obtain ⟨hE9, hP, hK9⟩ := hB9
    rw [ht9] at hP
    obtain ⟨hw9, hk9⟩ := hw9
    rw [hw9, Option.bind_some, Sum.elim_inl] at hf
    subst hk9
    have hE9 : E = R_IAE := hE9
    subst hE9
    refine vx_catch (name := R_IAE) hown [] ⟨0, 17, 20, 22⟩ [] htab (fun z hz => nomatch hz) (by decide) (by decide) (ht _ mK_LW_22) (useCD rfl (hZ.2.2.2.1 _ mCA1 rfl)) hce hcv hcl ?_
    refine lv_astore (lv' := [(4, .ref q9), (0, .ref (ad 0)), (1, .int a1), (2, .int a2), (3, .ref (ad 38))]) hx hb d_LW_fits_20 hl (by decide) rfl (fun ls hl => ?_)
    refine lv_iconst (v := 1) hx hb d_LW_fits_22 (by decide) ?_
    rw [← hQ]
    exact W.iret (v := (1 : Int32)) hx hb hr (fun t ht hW => ⟨⟨(1 : Int32), S, rfl, hf.symm, by rw [ht]; exact hP, va_K.moved hW.alike hK⟩, hS.F ht⟩) hS.2.2 d_LW_fits_23
  obtain ⟨hP, hK9⟩ := hB
  rw [ht9] at hP
  obtain ⟨hw, hz1⟩ := hw
  rw [hw, Option.bind_some, Sum.elim_inr] at hf
  refine lv_if_eq (tgt := 15) hx hb d_LW_fits_8 (by decide) (fun c1 => ?_) (fun c1 => ?_)
  · rw [if_pos c1] at hf
    refine lv_lconst (v := 0) hx hb d_LW_fits_15 (by decide) ?_
    by_cases b2 : oob (0 : Int32) 1
    · rw [if_pos b2] at hf; exact absurd hf.symm hs
    rw [if_neg b2] at hf
    refine va_last hx hb hK hP (X_D hI hAd) hS 38 1 Xa_38 rfl b2 d_LW_fits_16 (fun H locs hP _ hS => ?_)
    replace hP := X_stL (by decide) Xc_38 hP
    refine lv_goto (tgt := 24) hx hb d_LW_fits_17 (by decide) ?_
    refine lv_iconst (v := 0) hx hb d_LW_fits_24 (by decide) ?_
    rw [← hQ]
    exact W.iret (v := (0 : Int32)) hx hb hr (fun t ht hW => ⟨⟨(0 : Int32), wL S 38 (0 : Int32).toNatClampNeg (0 : Int64), rfl, hf.symm, by rw [ht]; exact hP, va_K.moved hW.alike hK⟩, hS.F ht⟩) hS.2.2 d_LW_fits_25
  · rw [if_neg c1] at hf
    refine lv_lconst (v := 1) hx hb d_LW_fits_11 (by decide) ?_
    refine lv_goto (tgt := 16) hx hb d_LW_fits_12 (by decide) ?_
    by_cases b3 : oob (0 : Int32) 1
    · rw [if_pos b3] at hf; exact absurd hf.symm hs
    rw [if_neg b3] at hf
    refine va_last hx hb hK hP (X_D hI hAd) hS 38 1 Xa_38 rfl b3 d_LW_fits_16 (fun H locs hP _ hS => ?_)
    replace hP := X_stL (by decide) Xc_38 hP
    refine lv_goto (tgt := 24) hx hb d_LW_fits_17 (by decide) ?_
    refine lv_iconst (v := 0) hx hb d_LW_fits_24 (by decide) ?_
    rw [← hQ]
    exact W.iret (v := (0 : Int32)) hx hb hr (fun t ht hW => ⟨⟨(0 : Int32), wL S 38 (0 : Int32).toNatClampNeg (1 : Int64), rfl, hf.symm, by rw [ht]; exact hP, va_K.moved hW.alike hK⟩, hS.F ht⟩) hS.2.2 d_LW_fits_25
set_option maxHeartbeats 4000000 in
set_option maxRecDepth 100000 in
theorem c_LW_left (l : Launch) (hlt : l.stackTraces = false) (D : va_G) (cA : Nat → ClassId) (ad : Nat → Nat) (hI : InjA ad) (sz : Nat) (S : SS) (hs : f_LW_left S ≠ none) : Met l y_LW_left w_LW_left ({ frames := 8, cells := 1, slots := 6, locals := 160 }) (va_Pc [.ref (ad 0), .ref (ad 38)] (fun U => U.heap.size = sz ∧ va_P D vwCl (X cA ad S) U.heap ∧ va_K D vwCl (tysX cA) U ∧ ZX (AS ad sz) U)) (va_Qi (fun (r : Int32) (u : SS) => f_LW_left S = some (r, u)) (fun (u : SS) t => va_P D vwCl (X cA ad u) t.heap ∧ va_K D vwCl (tysX cA) t) (AS ad sz)) 1 6 (AS ad sz) := by
  refine gz_ofWH (cc := b_LW_left) (maxL := 3) (ret := (some .int)) (hh := [(0, 8, 11, 13)]) (by decide) rfl ?_
  intro p e s m args below meth c s₁ B hml htab hv
  obtain ⟨rfl, hsz, hP, hK, hZ⟩ := hv
  have hx := B.exec
  have hb := B.bytes
  have hr := B.returns
  have hts := atoms_spec (ws := w_LW_left) B.pre
  have ht := fun w h => hts w (List.mem_cons_of_mem _ h)
  have hown : s.vm.findClass R_LW = some m.cls := findClass_of_methodNamed B.named
  have hlocks := B.notSynchronized
  subst hsz
  have hAd : ∀ q, q < NP → AS ad s.heap.size (ad q) := fun q h => Or.inl ⟨q, h, rfl⟩
  have hA : ∀ q : Nat, s.heap.size ≤ q → AS ad s.heap.size q := fun q h => Or.inr h
  have hAS : ∀ z : Nat, s.heap.size ≤ z → ∀ q : Nat, AS ad z q → AS ad s.heap.size q := fun z h q hq => hq.elim Or.inl (fun g => Or.inr (Nat.le_trans h g))
  generalize hAe : AS ad s.heap.size = A at hAd hA hAS hZ ⊢
  have hS : va_S A s.heap s.heap [] := va_S.rf
  have hl := lv_entry ([.ref (ad 0), .ref (ad 38)]) (n := 3) (Nat.le_of_ble_eq_true rfl)
  rw [lg_entry_eq]
  generalize (lg_sl ([.ref (ad 0), .ref (ad 38)]) ++ List.replicate (3 - (lg_sl ([.ref (ad 0), .ref (ad 38)])).length) Slot.unset).toArray = ls at hl ⊢
  have hl : lv_has ls 3 [(0, .ref (ad 0)), (1, .ref (ad 38))] := hl
  have hf := (f_LW_left_s S).symm
  generalize hQ : MQ below _ _ s _ _ _ = Q
  refine lv_aload_n hx hb d_LW_left_0 rfl (lv_at hl 1 rfl) ?_
  refine lv_iconst (v := 0) hx hb d_LW_left_1 (by decide) ?_
  refine lv_aload_n hx hb d_LW_left_2 rfl (lv_at hl 0 rfl) ?_
  refine vx_calli (vx_runV (As := []) (rest := [.int (0 : Int32), .ref (ad 38)]) ⟨hx, hb, hml, hown, ht⟩ (c_MK_left l hlt D cA ad hI s.heap.size S (fun hn => hs (by rw [hn] at hf; exact hf.symm))) (cwV 0 ht (good_G (gV mM_LW_49 mI_MK_left mV_MK_left mN_MK mk_MK_left)) rfl rfl rfl (by decide +kernel) ⟨Nat.le_of_ble_eq_true rfl, Nat.le_of_ble_eq_true rfl⟩) ⟨fun a U g mk q => ⟨q.1, q.2.1, q.2.2.1, va_K.moved (u := U) (U := U.calling g mk a) (Vm.Alike.refl U.vm) q.2.2.2.1, ZX.call q.2.2.2.2⟩, va_recv hK hP (ci := 0) (q0 := 0) rfl Xa_0, fun U hU hW => ⟨rfl, by rw [hU], by rw [hU]; exact hP, va_K.moved hW.alike hK, hZ.to hS (hAS _ hS.1) hU hW⟩⟩ rfl rfl hl.1 rfl (lv_room (Nat.le_of_ble_eq_true rfl)) d_LW_left_3 ⟨Nat.le_of_ble_eq_true rfl, Nat.le_of_ble_eq_true rfl⟩) hS (fun q _ h => hAS _ hS.1 q h) (fun q h => hAS _ hS.1 q h) (fun q _ h => hAS _ hS.1 q h) (fun E ce q9 kx tx H locs ht9 hvm9 hw9 hB9 hz9 hk9 hS hce hcv hcl => ?_) (fun r1 u1 t H locs ht9 hvm hw hB hz1 hk1 hS => ?_)
  · obtain ⟨hE9, hP, hK9⟩ := hB9
    rw [ht9] at hP
    obtain ⟨hw9, hk9⟩ := hw9
    rw [hw9, Option.bind_some, Sum.elim_inl] at hf
    subst hk9
    have hE9 : E = R_ISE := hE9
    subst hE9
    refine vx_catch (name := R_ISE) hown [] ⟨0, 8, 11, 13⟩ [] htab (fun z hz => nomatch hz) (by decide) (by decide) (ht _ mK_LW_13) (useCD rfl (hZ.2.2.2.1 _ mCA2 rfl)) hce hcv hcl ?_
    refine lv_astore_n (lv' := [(2, .ref q9), (0, .ref (ad 0)), (1, .ref (ad 38))]) hx hb d_LW_left_11 rfl hl (by decide) rfl (fun ls hl => ?_)
    refine lv_iconst (v := 1) hx hb d_LW_left_12 (by decide) ?_
    rw [← hQ]
    exact W.iret (v := (1 : Int32)) hx hb hr (fun t ht hW => ⟨⟨(1 : Int32), S, rfl, hf.symm, by rw [ht]; exact hP, va_K.moved hW.alike hK⟩, hS.F ht⟩) hS.2.2 d_LW_left_13
  obtain ⟨hP, hK9⟩ := hB
  rw [ht9] at hP
  rw [hw, Option.bind_some, Sum.elim_inr] at hf
  dsimp only at hf
  refine lv_i2l hx hb d_LW_left_6 rfl ?_
  by_cases b1 : oob (0 : Int32) 1
  · rw [if_pos b1] at hf; exact absurd hf.symm hs
  rw [if_neg b1] at hf
  refine va_last hx hb hK hP (X_D hI hAd) hS 38 1 Xa_38 rfl b1 d_LW_left_7 (fun H locs hP _ hS => ?_)
  replace hP := X_stL (by decide) Xc_38 hP
  refine lv_goto (tgt := 14) hx hb d_LW_left_8 (by decide) ?_
  refine lv_iconst (v := 0) hx hb d_LW_left_14 (by decide) ?_
  rw [← hQ]
  exact W.iret (v := (0 : Int32)) hx hb hr (fun t ht hW => ⟨⟨(0 : Int32), wL u1 38 (0 : Int32).toNatClampNeg r1.toInt64, rfl, hf.symm, by rw [ht]; exact hP, va_K.moved hW.alike hK⟩, hS.F ht⟩) hS.2.2 d_LW_left_15
set_option maxHeartbeats 4000000 in
set_option maxRecDepth 100000 in
theorem c_LW_add (l : Launch) (hlt : l.stackTraces = false) (D : va_G) (cA : Nat → ClassId) (ad : Nat → Nat) (hI : InjA ad) (sz : Nat) (a1 : Int32) (S : SS) (hs : f_LW_add a1 S ≠ none) : Met l y_LW_add w_LW_add ({ frames := 8, cells := 2, slots := 12, locals := 171 }) (va_Pc [.ref (ad 0), .int a1, .ref (ad 38)] (fun U => U.heap.size = sz ∧ va_P D vwCl (X cA ad S) U.heap ∧ va_K D vwCl (tysX cA) U ∧ ZX (AS ad sz) U)) (va_Qi (fun (r : Int32) (u : SS) => f_LW_add a1 S = some (r, u)) (fun (u : SS) t => va_P D vwCl (X cA ad u) t.heap ∧ va_K D vwCl (tysX cA) t) (AS ad sz)) 2 12 (AS ad sz) := by
  refine gz_ofWH (cc := b_LW_add) (maxL := 4) (ret := (some .int)) (hh := [(0, 9, 12, 22), (0, 9, 15, 13)]) (by decide) rfl ?_
  intro p e s m args below meth c s₁ B hml htab hv
  obtain ⟨rfl, hsz, hP, hK, hZ⟩ := hv
  have hx := B.exec
  have hb := B.bytes
  have hr := B.returns
  have hts := atoms_spec (ws := w_LW_add) B.pre
  have ht := fun w h => hts w (List.mem_cons_of_mem _ h)
  have hown : s.vm.findClass R_LW = some m.cls := findClass_of_methodNamed B.named
  have hlocks := B.notSynchronized
  subst hsz
  have hAd : ∀ q, q < NP → AS ad s.heap.size (ad q) := fun q h => Or.inl ⟨q, h, rfl⟩
  have hA : ∀ q : Nat, s.heap.size ≤ q → AS ad s.heap.size q := fun q h => Or.inr h
  have hAS : ∀ z : Nat, s.heap.size ≤ z → ∀ q : Nat, AS ad z q → AS ad s.heap.size q := fun z h q hq => hq.elim Or.inl (fun g => Or.inr (Nat.le_trans h g))
  generalize hAe : AS ad s.heap.size = A at hAd hA hAS hZ ⊢
  have hS : va_S A s.heap s.heap [] := va_S.rf
  have hl := lv_entry ([.ref (ad 0), .int a1, .ref (ad 38)]) (n := 4) (Nat.le_of_ble_eq_true rfl)
  rw [lg_entry_eq]
  generalize (lg_sl ([.ref (ad 0), .int a1, .ref (ad 38)]) ++ List.replicate (4 - (lg_sl ([.ref (ad 0), .int a1, .ref (ad 38)])).length) Slot.unset).toArray = ls at hl ⊢
  have hl : lv_has ls 4 [(0, .ref (ad 0)), (1, .int a1), (2, .ref (ad 38))] := hl
  have hf := (f_LW_add_s a1 S).symm
  generalize hQ : MQ below _ _ s _ _ _ = Q
  refine lv_aload_n hx hb d_LW_add_0 rfl (lv_at hl 2 rfl) ?_
  refine lv_iconst (v := 0) hx hb d_LW_add_1 (by decide) ?_
  refine lv_aload_n hx hb d_LW_add_2 rfl (lv_at hl 0 rfl) ?_
  refine lv_iload_n hx hb d_LW_add_3 rfl (lv_at hl 1 rfl) ?_
  refine vx_calli (vx_runV (As := [.int a1]) (rest := [.int (0 : Int32), .ref (ad 38)]) ⟨hx, hb, hml, hown, ht⟩ (c_MK_add l hlt D cA ad hI s.heap.size a1 S (fun hn => hs (by rw [hn] at hf; exact hf.symm))) (cwV 1 ht (good_G (gV mM_LW_52 mI_MK_add mV_MK_add mN_MK mk_MK_add)) rfl rfl rfl (by decide +kernel) ⟨Nat.le_of_ble_eq_true rfl, Nat.le_of_ble_eq_true rfl⟩) ⟨fun a U g mk q => ⟨q.1, q.2.1, q.2.2.1, va_K.moved (u := U) (U := U.calling g mk a) (Vm.Alike.refl U.vm) q.2.2.2.1, ZX.call q.2.2.2.2⟩, va_recv hK hP (ci := 0) (q0 := 0) rfl Xa_0, fun U hU hW => ⟨rfl, by rw [hU], by rw [hU]; exact hP, va_K.moved hW.alike hK, hZ.to hS (hAS _ hS.1) hU hW⟩⟩ rfl rfl hl.1 rfl (lv_room (Nat.le_of_ble_eq_true rfl)) d_LW_add_4 ⟨Nat.le_of_ble_eq_true rfl, Nat.le_of_ble_eq_true rfl⟩) hS (fun q _ h => hAS _ hS.1 q h) (fun q h => hAS _ hS.1 q h) (fun q _ h => hAS _ hS.1 q h) (fun E ce q9 kx tx H locs ht9 hvm9 hw9 hB9 hz9 hk9 hS hce hcv hcl => ?_) (fun r1 u1 t H locs ht9 hvm hw hB hz1 hk1 hS => ?_)
  · obtain ⟨hE9, hP, hK9⟩ := hB9
    rw [ht9] at hP
    obtain ⟨hw9, hk9⟩ := hw9
    rw [hw9, Option.bind_some, Sum.elim_inl] at hf
    rcases hk9 with hk9 | hk9
    · subst hk9
      rw [if_pos rfl] at hf
      have hE9 : E = R_IAE := hE9
      subst hE9
      refine vx_catch (name := R_IAE) hown [] ⟨0, 9, 12, 22⟩ [⟨0, 9, 15, 13⟩] htab (fun z hz => nomatch hz) (by decide) (by decide) (ht _ mK_LW_22) (useCD rfl (hZ.2.2.2.1 _ mCA1 rfl)) hce hcv hcl ?_
      refine lv_astore_n (lv' := [(3, .ref q9), (0, .ref (ad 0)), (1, .int a1), (2, .ref (ad 38))]) hx hb d_LW_add_12 rfl hl (by decide) rfl (fun ls hl => ?_)
      refine lv_iconst (v := 1) hx hb d_LW_add_13 (by decide) ?_
      rw [← hQ]
      exact W.iret (v := (1 : Int32)) hx hb hr (fun t ht hW => ⟨⟨(1 : Int32), S, rfl, hf.symm, by rw [ht]; exact hP, va_K.moved hW.alike hK⟩, hS.F ht⟩) hS.2.2 d_LW_add_14
    · subst hk9
      rw [if_neg (by decide)] at hf
      have hE9 : E = R_ISE := hE9
      subst hE9
      refine vx_catch (name := R_ISE) hown [⟨0, 9, 12, 22⟩] ⟨0, 9, 15, 13⟩ [] htab (fun z hz => by rw [List.mem_singleton.mp hz]; exact Or.inr ⟨by decide, R_IAE, ht _ mK_LW_22, hZ.2.2.2.2⟩) (by decide) (by decide) (ht _ mK_LW_13) (useCD rfl (hZ.2.2.2.1 _ mCA2 rfl)) hce hcv hcl ?_
      refine lv_astore_n (lv' := [(3, .ref q9), (0, .ref (ad 0)), (1, .int a1), (2, .ref (ad 38))]) hx hb d_LW_add_15 rfl hl (by decide) rfl (fun ls hl => ?_)
      refine lv_iconst (v := 2) hx hb d_LW_add_16 (by decide) ?_
      rw [← hQ]
      exact W.iret (v := (2 : Int32)) hx hb hr (fun t ht hW => ⟨⟨(2 : Int32), S, rfl, hf.symm, by rw [ht]; exact hP, va_K.moved hW.alike hK⟩, hS.F ht⟩) hS.2.2 d_LW_add_17
  obtain ⟨hP, hK9⟩ := hB
  rw [ht9] at hP
  rw [hw, Option.bind_some, Sum.elim_inr] at hf
  dsimp only at hf
  refine lv_i2l hx hb d_LW_add_7 rfl ?_
  by_cases b1 : oob (0 : Int32) 1
  · rw [if_pos b1] at hf; exact absurd hf.symm hs
  rw [if_neg b1] at hf
  refine va_last hx hb hK hP (X_D hI hAd) hS 38 1 Xa_38 rfl b1 d_LW_add_8 (fun H locs hP _ hS => ?_)
  replace hP := X_stL (by decide) Xc_38 hP
  refine lv_goto (tgt := 18) hx hb d_LW_add_9 (by decide) ?_
  refine lv_iconst (v := 0) hx hb d_LW_add_18 (by decide) ?_
  rw [← hQ]
  exact W.iret (v := (0 : Int32)) hx hb hr (fun t ht hW => ⟨⟨(0 : Int32), wL u1 38 (0 : Int32).toNatClampNeg r1.toInt64, rfl, hf.symm, by rw [ht]; exact hP, va_K.moved hW.alike hK⟩, hS.F ht⟩) hS.2.2 d_LW_add_19
set_option maxHeartbeats 4000000 in
set_option maxRecDepth 100000 in
theorem c_LW_heirs (l : Launch) (hlt : l.stackTraces = false) (D : va_G) (cA : Nat → ClassId) (ad : Nat → Nat) (hI : InjA ad) (sz : Nat) (a1 : Int32) (S : SS) (hs : f_LW_heirs a1 S ≠ none) : Met l y_LW_heirs w_LW_heirs ({ frames := 8, cells := 2, slots := 12, locals := 135 }) (va_Pc [.ref (ad 0), .int a1, .ref (ad 38)] (fun U => U.heap.size = sz ∧ va_P D vwCl (X cA ad S) U.heap ∧ va_K D vwCl (tysX cA) U ∧ ZX (AS ad sz) U)) (va_Qi (fun (r : Int32) (u : SS) => f_LW_heirs a1 S = some (r, u)) (fun (u : SS) t => va_P D vwCl (X cA ad u) t.heap ∧ va_K D vwCl (tysX cA) t) (AS ad sz)) 2 12 (AS ad sz) := by
  refine gz_ofWH (cc := b_LW_heirs) (maxL := 4) (ret := (some .int)) (hh := [(0, 9, 12, 22), (0, 9, 15, 13)]) (by decide) rfl ?_
  intro p e s m args below meth c s₁ B hml htab hv
  obtain ⟨rfl, hsz, hP, hK, hZ⟩ := hv
  have hx := B.exec
  have hb := B.bytes
  have hr := B.returns
  have hts := atoms_spec (ws := w_LW_heirs) B.pre
  have ht := fun w h => hts w (List.mem_cons_of_mem _ h)
  have hown : s.vm.findClass R_LW = some m.cls := findClass_of_methodNamed B.named
  have hlocks := B.notSynchronized
  subst hsz
  have hAd : ∀ q, q < NP → AS ad s.heap.size (ad q) := fun q h => Or.inl ⟨q, h, rfl⟩
  have hA : ∀ q : Nat, s.heap.size ≤ q → AS ad s.heap.size q := fun q h => Or.inr h
  have hAS : ∀ z : Nat, s.heap.size ≤ z → ∀ q : Nat, AS ad z q → AS ad s.heap.size q := fun z h q hq => hq.elim Or.inl (fun g => Or.inr (Nat.le_trans h g))
  generalize hAe : AS ad s.heap.size = A at hAd hA hAS hZ ⊢
  have hS : va_S A s.heap s.heap [] := va_S.rf
  have hl := lv_entry ([.ref (ad 0), .int a1, .ref (ad 38)]) (n := 4) (Nat.le_of_ble_eq_true rfl)
  rw [lg_entry_eq]
  generalize (lg_sl ([.ref (ad 0), .int a1, .ref (ad 38)]) ++ List.replicate (4 - (lg_sl ([.ref (ad 0), .int a1, .ref (ad 38)])).length) Slot.unset).toArray = ls at hl ⊢
  have hl : lv_has ls 4 [(0, .ref (ad 0)), (1, .int a1), (2, .ref (ad 38))] := hl
  have hf := (f_LW_heirs_s a1 S).symm
  generalize hQ : MQ below _ _ s _ _ _ = Q
  refine lv_aload_n hx hb d_LW_heirs_0 rfl (lv_at hl 2 rfl) ?_
  refine lv_iconst (v := 0) hx hb d_LW_heirs_1 (by decide) ?_
  refine lv_aload_n hx hb d_LW_heirs_2 rfl (lv_at hl 0 rfl) ?_
  refine lv_iload_n hx hb d_LW_heirs_3 rfl (lv_at hl 1 rfl) ?_
  refine vx_calli (vx_runV (As := [.int a1]) (rest := [.int (0 : Int32), .ref (ad 38)]) ⟨hx, hb, hml, hown, ht⟩ (c_MK_heirs l hlt D cA ad hI s.heap.size a1 S (fun hn => hs (by rw [hn] at hf; exact hf.symm))) (cwV 1 ht (good_G (gV mM_LW_55 mI_MK_heirs mV_MK_heirs mN_MK mk_MK_heirs)) rfl rfl rfl (by decide +kernel) ⟨Nat.le_of_ble_eq_true rfl, Nat.le_of_ble_eq_true rfl⟩) ⟨fun a U g mk q => ⟨q.1, q.2.1, q.2.2.1, va_K.moved (u := U) (U := U.calling g mk a) (Vm.Alike.refl U.vm) q.2.2.2.1, ZX.call q.2.2.2.2⟩, va_recv hK hP (ci := 0) (q0 := 0) rfl Xa_0, fun U hU hW => ⟨rfl, by rw [hU], by rw [hU]; exact hP, va_K.moved hW.alike hK, hZ.to hS (hAS _ hS.1) hU hW⟩⟩ rfl rfl hl.1 rfl (lv_room (Nat.le_of_ble_eq_true rfl)) d_LW_heirs_4 ⟨Nat.le_of_ble_eq_true rfl, Nat.le_of_ble_eq_true rfl⟩) hS (fun q _ h => hAS _ hS.1 q h) (fun q h => hAS _ hS.1 q h) (fun q _ h => hAS _ hS.1 q h) (fun E ce q9 kx tx H locs ht9 hvm9 hw9 hB9 hz9 hk9 hS hce hcv hcl => ?_) (fun r1 _ t H locs ht9 hvm hw hB hz1 hk1 hS => ?_)
  · obtain ⟨hE9, hP, hK9⟩ := hB9
    rw [ht9] at hP
    obtain ⟨hw9, hk9⟩ := hw9
    rw [hw9, Option.bind_some, Sum.elim_inl] at hf
    rcases hk9 with hk9 | hk9
    · subst hk9
      rw [if_pos rfl] at hf
      have hE9 : E = R_IAE := hE9
      subst hE9
      refine vx_catch (name := R_IAE) hown [] ⟨0, 9, 12, 22⟩ [⟨0, 9, 15, 13⟩] htab (fun z hz => nomatch hz) (by decide) (by decide) (ht _ mK_LW_22) (useCD rfl (hZ.2.2.2.1 _ mCA1 rfl)) hce hcv hcl ?_
      refine lv_astore_n (lv' := [(3, .ref q9), (0, .ref (ad 0)), (1, .int a1), (2, .ref (ad 38))]) hx hb d_LW_heirs_12 rfl hl (by decide) rfl (fun ls hl => ?_)
      refine lv_iconst (v := 1) hx hb d_LW_heirs_13 (by decide) ?_
      rw [← hQ]
      exact W.iret (v := (1 : Int32)) hx hb hr (fun t ht hW => ⟨⟨(1 : Int32), S, rfl, hf.symm, by rw [ht]; exact hP, va_K.moved hW.alike hK⟩, hS.F ht⟩) hS.2.2 d_LW_heirs_14
    · subst hk9
      rw [if_neg (by decide)] at hf
      have hE9 : E = R_ISE := hE9
      subst hE9
      refine vx_catch (name := R_ISE) hown [⟨0, 9, 12, 22⟩] ⟨0, 9, 15, 13⟩ [] htab (fun z hz => by rw [List.mem_singleton.mp hz]; exact Or.inr ⟨by decide, R_IAE, ht _ mK_LW_22, hZ.2.2.2.2⟩) (by decide) (by decide) (ht _ mK_LW_13) (useCD rfl (hZ.2.2.2.1 _ mCA2 rfl)) hce hcv hcl ?_
      refine lv_astore_n (lv' := [(3, .ref q9), (0, .ref (ad 0)), (1, .int a1), (2, .ref (ad 38))]) hx hb d_LW_heirs_15 rfl hl (by decide) rfl (fun ls hl => ?_)
      refine lv_iconst (v := 2) hx hb d_LW_heirs_16 (by decide) ?_
      rw [← hQ]
      exact W.iret (v := (2 : Int32)) hx hb hr (fun t ht hW => ⟨⟨(2 : Int32), S, rfl, hf.symm, by rw [ht]; exact hP, va_K.moved hW.alike hK⟩, hS.F ht⟩) hS.2.2 d_LW_heirs_17
  obtain ⟨hP, hK9⟩ := hB
  rw [ht9] at hP
  rw [hw, Option.bind_some, Sum.elim_inr] at hf
  refine lv_i2l hx hb d_LW_heirs_7 rfl ?_
  by_cases b1 : oob (0 : Int32) 1
  · rw [if_pos b1] at hf; exact absurd hf.symm hs
  rw [if_neg b1] at hf
  refine va_last hx hb hK hP (X_D hI hAd) hS 38 1 Xa_38 rfl b1 d_LW_heirs_8 (fun H locs hP _ hS => ?_)
  replace hP := X_stL (by decide) Xc_38 hP
  refine lv_goto (tgt := 18) hx hb d_LW_heirs_9 (by decide) ?_
  refine lv_iconst (v := 0) hx hb d_LW_heirs_18 (by decide) ?_
  rw [← hQ]
  exact W.iret (v := (0 : Int32)) hx hb hr (fun t ht hW => ⟨⟨(0 : Int32), wL S 38 (0 : Int32).toNatClampNeg r1.toInt64, rfl, hf.symm, by rw [ht]; exact hP, va_K.moved hW.alike hK⟩, hS.F ht⟩) hS.2.2 d_LW_heirs_19
