set_option maxHeartbeats 40000000 in
set_option maxRecDepth 100000 in
theorem law_loop {p : Program} {l : Launch} {e : Env} {s : State} {m : MethodId} {below : List Frame} {meth : Method} {c : Code} (hlt : l.stackTraces = false) {D : va_G} {cA : Nat → ClassId} {ad : Nat → Nat} {b L : Nat} {xs : Nat → Int32} (C0 : lw_At p s m meth c b L xs) (hI : InjA ad) (hK : va_K D vwCl (tysX cA) s) (hAd : ∀ q, q < NP → s.heap.size ≤ ad q) (hZ : ZX (fun q => s.heap.size ≤ q) s) (cb sb : Nat) (hcb : cb ≤ 500000) (hsb : sb ≤ 7000000) :
    ∀ (n k : Nat) (x4 : Int32) (S : SS) (H : Heap) (locs : List Loc) (ls : Array Slot), k + n ≤ 600 → va_P D vwCl (X cA ad S) H → va_S (fun q => s.heap.size ≤ q) s.heap H locs → lv_has ls 7 [(0, .ref b), (1, .ref (ad 0)), (2, .ref (ad 33)), (3, .ref (ad 38)), (4, .int x4)] → f_LW_loop L xs n x4 S = some 1 → W p l e room_1 s m #[Value.ref b] below meth c H locs (cb + 3 * k) (sb + 18 * k) (lw_Z below #[Value.ref b] s) (F0 m 43 ls []) := by
  obtain ⟨hx, hb, hr, hml, hown, hts, hX, hbl, hlocks, hgv⟩ := C0
  have hown : s.vm.findClass R_LW = some m.cls := hown
  have ht : ∀ w ∈ tblG, w.before #[Value.ref b] s = true := fun w h => hts w (tbl_G w h)
  have hbA : ¬ (fun q : Nat => s.heap.size ≤ q) b := Nat.not_le.mpr hbl
  have hAS : ∀ z : Nat, s.heap.size ≤ z → ∀ q : Nat, AS ad z q → s.heap.size ≤ q := fun z h q hq => hq.elim (fun ⟨p, hp, e⟩ => by rw [e]; exact hAd p hp) (fun g => Nat.le_trans h g)
  intro n
  induction n with
  | zero => intro k x4 S H locs ls _ _ _ _ h1; exact absurd h1 (by intro h; cases h)
  | succ n ih =>
    intro k x4 S H locs ls hkn hP hS hl h1
    have hs : f_LW_loop L xs (n + 1) x4 S ≠ none := by rw [h1]; exact fun h => by cases h
    have hf := (f_LW_loop_s L xs n x4 S).symm
    refine lv_iload hx hb d_LW_law_43 (lv_at hl 4 rfl) ?_
    refine lv_aload_n hx hb d_LW_law_45 rfl (lv_at hl 0 rfl) ?_
    refine va_slen hx hb hX hbl hbA hS d_LW_law_46 ?_
    refine lv_iconst (v := 4) hx hb d_LW_law_47 (by decide) ?_
    refine lv_isub hx hb d_LW_law_48 ?_
    refine lv_icmp_gt (tgt := 1012) hx hb d_LW_law_49 (by decide) (fun c1 => ?_) (fun c1 => ?_)
    · rw [if_pos c1] at hf
      refine lv_iconst (v := 1) hx hb d_LW_law_1012 (by decide) ?_
      refine va_forget (fun q hq => hS.2.2 q hq) ?_
      refine W.widen (k := 601024) (n := 7293000) (by omega) (by omega) ?_
      exact lw_ret hx hb hr hlocks d_LW_law_1013
    · rw [if_neg c1] at hf
      refine lv_aload_n hx hb d_LW_law_52 rfl (lv_at hl 0 rfl) ?_
      refine lv_iload hx hb d_LW_law_53 (lv_at hl 4 rfl) ?_
      by_cases b2 : oob x4 L
      · rw [if_pos b2] at hf; exact absurd hf.symm hs
      rw [if_neg b2] at hf
      refine va_sld hx hb hX hbl hbA hS b2 d_LW_law_55 ?_
      refine lv_bipush (v := 15) hx hb d_LW_law_56 (by decide) ?_
      refine lv_iand hx hb d_LW_law_58 ?_
      by_cases s0 : ((xs x4.toNatClampNeg) &&& (15 : Int32)) = 0
      · rw [if_pos s0] at hf
        refine lv_tableIn (off := 73) (tgt := 132) hx hb d_LW_law_59 (by rw [s0]; decide) (by rw [s0]; decide) (by rw [s0]; decide) (by decide) ?_
        skip
        refine lv_aload_n hx hb d_LW_law_132 rfl (lv_at hl 1 rfl) ?_
        refine lv_aload_n hx hb d_LW_law_133 rfl (lv_at hl 3 rfl) ?_
        refine va_calli (vx_runSW (As := [.ref (ad 0), .ref (ad 38)]) (rest := []) ⟨hx, hb, hml, hown, ht⟩ (c_LW_key l hlt D cA ad hI H.size S (fun hn => hs (by rw [hn] at hf; exact hf.symm))) (vx_cwSW 2 ht (good_G (gS mM_LW_70 mS_LW_key mN_LW mk_LW_key)) rfl rfl rfl (by decide +kernel) ⟨Nat.le_of_ble_eq_true rfl, Nat.le_of_ble_eq_true rfl⟩) ⟨fun a U g mk q => ⟨q.1, q.2.1, q.2.2.1, va_K.moved (u := U) (U := U.calling g mk a) (Vm.Alike.refl U.vm) q.2.2.2.1, ZX.call q.2.2.2.2⟩, fun U hU hW => ⟨rfl, by rw [hU], by rw [hU]; exact hP, va_K.moved hW.alike hK, hZ.to hS (hAS _ hS.1) hU hW⟩⟩ rfl rfl hl.1 rfl (lv_room (Nat.le_of_ble_eq_true rfl)) d_LW_law_134 ⟨by show _ ≤ 601024; omega, by show _ ≤ 7293000; omega⟩) hS (fun q _ h => hAS _ hS.1 q h) (fun q h => hAS _ hS.1 q h) (fun r1 u1 t H locs ht9 hvm hw hB hz1 hk1 hS => ?_)
        obtain ⟨hP, hK9⟩ := hB
        rw [ht9] at hP
        rw [hw, Option.bind_some] at hf
        dsimp only at hf
        refine lv_istore (lv' := [(5, .int r1), (0, .ref b), (1, .ref (ad 0)), (2, .ref (ad 33)), (3, .ref (ad 38)), (4, .int x4)]) hx hb d_LW_law_137 hl (by decide) rfl (fun ls hl => ?_)
        refine lv_aload_n hx hb d_LW_law_139 rfl (lv_at hl 3 rfl) ?_
        refine va_calli (va_runV (As := []) (rest := []) ⟨hx, hb, hml, hown, ht⟩ (c_RM_key l D cA ad hI H.size u1 (fun hn => hs (by rw [hn] at hf; exact hf.symm))) (cwV 0 ht (good_G (gV mM_LW_73 mI_RM_key mV_RM_key mN_RM mk_RM_key)) rfl rfl rfl (by decide +kernel) ⟨Nat.le_of_ble_eq_true rfl, Nat.le_of_ble_eq_true rfl⟩) ⟨fun a U g mk q => ⟨q.1, q.2.1, q.2.2.1, va_K.moved (u := U) (U := U.calling g mk a) (Vm.Alike.refl U.vm) q.2.2.2⟩, va_recv hK hP (ci := 5) (q0 := 33) rfl Xa_33, fun U hU hW => ⟨rfl, by rw [hU], by rw [hU]; exact hP, va_K.moved hW.alike hK⟩⟩ rfl rfl hl.1 rfl (lv_room (Nat.le_of_ble_eq_true rfl)) d_LW_law_140 ⟨by show _ ≤ 601024; omega, by show _ ≤ 7293000; omega⟩) hS (fun q _ h => hAS _ hS.1 q h) (fun q h => hAS _ hS.1 q h) (fun r2 u2 t H locs ht9 hvm hw hB hz1 hk1 hS => ?_)
        obtain ⟨hP, hK9⟩ := hB
        rw [ht9] at hP
        rw [hw, Option.bind_some] at hf
        dsimp only at hf
        refine lv_istore (lv' := [(6, .int r2), (5, .int r1), (0, .ref b), (1, .ref (ad 0)), (2, .ref (ad 33)), (3, .ref (ad 38)), (4, .int x4)]) hx hb d_LW_law_143 hl (by decide) rfl (fun ls hl => ?_)
        refine lv_aload_n hx hb d_LW_law_145 rfl (lv_at hl 4 rfl) ?_
        refine va_calli (va_runV (As := []) (rest := []) ⟨hx, hb, hml, hown, ht⟩ (c_RM_thrown l D cA ad hI H.size u2 (fun hn => hs (by rw [hn] at hf; exact hf.symm))) (cwV 0 ht (good_G (gV mM_LW_74 mI_RM_thrown mV_RM_thrown mN_RM mk_RM_thrown)) rfl rfl rfl (by decide +kernel) ⟨Nat.le_of_ble_eq_true rfl, Nat.le_of_ble_eq_true rfl⟩) ⟨fun a U g mk q => ⟨q.1, q.2.1, q.2.2.1, va_K.moved (u := U) (U := U.calling g mk a) (Vm.Alike.refl U.vm) q.2.2.2⟩, va_recv hK hP (ci := 5) (q0 := 33) rfl Xa_33, fun U hU hW => ⟨rfl, by rw [hU], by rw [hU]; exact hP, va_K.moved hW.alike hK⟩⟩ rfl rfl hl.1 rfl (lv_room (Nat.le_of_ble_eq_true rfl)) d_LW_law_146 ⟨by show _ ≤ 601024; omega, by show _ ≤ 7293000; omega⟩) hS (fun q _ h => hAS _ hS.1 q h) (fun q h => hAS _ hS.1 q h) (fun r3 _ t H locs ht9 hvm hw hB hz1 hk1 hS => ?_)
        obtain ⟨hP, hK9⟩ := hB
        rw [ht9] at hP
        rw [hw, Option.bind_some] at hf
        refine lv_iload hx hb d_LW_law_149 (lv_at hl 1 rfl) ?_
        refine lv_icmp_eq (tgt := 156) hx hb d_LW_law_151 (by decide) (fun c3 => ?_) (fun c3 => ?_)
        · rw [if_pos c3] at hf
          refine lv_iload hx hb d_LW_law_156 (lv_at hl 1 rfl) ?_
          refine lv_if_ne (tgt := 173) hx hb d_LW_law_158 (by decide) (fun c4 => ?_) (fun c4 => ?_)
          · rw [if_neg c4] at hf
            refine lv_goto (tgt := 1006) hx hb d_LW_law_173 (by decide) ?_
            refine lv_iinc (v := x4 + 4) (lv' := [(4, .int (x4 + 4)), (6, .int r2), (5, .int r1), (0, .ref b), (1, .ref (ad 0)), (2, .ref (ad 33)), (3, .ref (ad 38))]) hx hb d_LW_law_1006 hl (k := 6) rfl rfl (by decide) rfl (fun ls hl => ?_)
            refine lv_goto (tgt := 43) hx hb d_LW_law_1009 (by decide) ?_
            refine W.widen (k := cb + 3 * (k + 1)) (n := sb + 18 * (k + 1)) (by omega) (by omega) ?_
            exact ih (k + 1) (x4 + 4) u2 _ _ _ (by omega) hP hS (lv_sub hl [3, 4, 5, 6, 0] rfl) (hf.trans h1)
          · rw [if_pos c4] at hf
            refine lv_aload_n hx hb d_LW_law_161 rfl (lv_at hl 5 rfl) ?_
            refine lv_iconst (v := 0) hx hb d_LW_law_162 (by decide) ?_
            by_cases b5 : oob (0 : Int32) 1
            · rw [if_pos b5] at hf; exact absurd hf.symm hs
            rw [if_neg b5] at hf
            refine va_lald (f := u2.2 38) hx hb hK hP 38 1 Xa_38 rfl b5 d_LW_law_163 ?_
            refine lv_iload hx hb d_LW_law_164 (lv_at hl 0 rfl) ?_
            refine lv_i2l hx hb d_LW_law_166 rfl ?_
            refine W.lcmp hx hb d_LW_law_167 ?_
            refine lv_if_eq (tgt := 173) hx hb d_LW_law_168 (by decide) (fun c6 => ?_) (fun c6 => ?_)
            · rw [if_pos c6] at hf
              refine lv_goto (tgt := 1006) hx hb d_LW_law_173 (by decide) ?_
              refine lv_iinc (v := x4 + 4) (lv' := [(4, .int (x4 + 4)), (6, .int r2), (5, .int r1), (0, .ref b), (1, .ref (ad 0)), (2, .ref (ad 33)), (3, .ref (ad 38))]) hx hb d_LW_law_1006 hl (k := 6) rfl rfl (by decide) rfl (fun ls hl => ?_)
              refine lv_goto (tgt := 43) hx hb d_LW_law_1009 (by decide) ?_
              refine W.widen (k := cb + 3 * (k + 1)) (n := sb + 18 * (k + 1)) (by omega) (by omega) ?_
              exact ih (k + 1) (x4 + 4) u2 _ _ _ (by omega) hP hS (lv_sub hl [3, 4, 5, 6, 0] rfl) (hf.trans h1)
            · rw [if_neg c6] at hf
              refine lv_iconst (v := 0) hx hb d_LW_law_171 (by decide) ?_
              exact absurd (hf.trans h1) (by decide)
        · rw [if_neg c3] at hf
          refine lv_iconst (v := 0) hx hb d_LW_law_154 (by decide) ?_
          exact absurd (hf.trans h1) (by decide)
      rw [if_neg s0] at hf
      by_cases s1 : ((xs x4.toNatClampNeg) &&& (15 : Int32)) = 1
      · rw [if_pos s1] at hf
        refine lv_tableIn (off := 117) (tgt := 176) hx hb d_LW_law_59 (by rw [s1]; decide) (by rw [s1]; decide) (by rw [s1]; decide) (by decide) ?_
        skip
        refine lv_aload_n hx hb d_LW_law_176 rfl (lv_at hl 1 rfl) ?_
        refine lv_aload_n hx hb d_LW_law_177 rfl (lv_at hl 3 rfl) ?_
        refine va_calli (vx_runSW (As := [.ref (ad 0), .ref (ad 38)]) (rest := []) ⟨hx, hb, hml, hown, ht⟩ (c_LW_door l hlt D cA ad hI H.size S (fun hn => hs (by rw [hn] at hf; exact hf.symm))) (vx_cwSW 2 ht (good_G (gS mM_LW_77 mS_LW_door mN_LW mk_LW_door)) rfl rfl rfl (by decide +kernel) ⟨Nat.le_of_ble_eq_true rfl, Nat.le_of_ble_eq_true rfl⟩) ⟨fun a U g mk q => ⟨q.1, q.2.1, q.2.2.1, va_K.moved (u := U) (U := U.calling g mk a) (Vm.Alike.refl U.vm) q.2.2.2.1, ZX.call q.2.2.2.2⟩, fun U hU hW => ⟨rfl, by rw [hU], by rw [hU]; exact hP, va_K.moved hW.alike hK, hZ.to hS (hAS _ hS.1) hU hW⟩⟩ rfl rfl hl.1 rfl (lv_room (Nat.le_of_ble_eq_true rfl)) d_LW_law_178 ⟨by show _ ≤ 601024; omega, by show _ ≤ 7293000; omega⟩) hS (fun q _ h => hAS _ hS.1 q h) (fun q h => hAS _ hS.1 q h) (fun r4 u4 t H locs ht9 hvm hw hB hz1 hk1 hS => ?_)
        obtain ⟨hP, hK9⟩ := hB
        rw [ht9] at hP
        rw [hw, Option.bind_some] at hf
        dsimp only at hf
        refine lv_istore (lv' := [(5, .int r4), (0, .ref b), (1, .ref (ad 0)), (2, .ref (ad 33)), (3, .ref (ad 38)), (4, .int x4)]) hx hb d_LW_law_181 hl (by decide) rfl (fun ls hl => ?_)
        refine lv_aload_n hx hb d_LW_law_183 rfl (lv_at hl 3 rfl) ?_
        refine va_calli (va_runV (As := []) (rest := []) ⟨hx, hb, hml, hown, ht⟩ (c_RM_door l D cA ad hI H.size u4 (fun hn => hs (by rw [hn] at hf; exact hf.symm))) (cwV 0 ht (good_G (gV mM_LW_79 mI_RM_door mV_RM_door mN_RM mk_RM_door)) rfl rfl rfl (by decide +kernel) ⟨Nat.le_of_ble_eq_true rfl, Nat.le_of_ble_eq_true rfl⟩) ⟨fun a U g mk q => ⟨q.1, q.2.1, q.2.2.1, va_K.moved (u := U) (U := U.calling g mk a) (Vm.Alike.refl U.vm) q.2.2.2⟩, va_recv hK hP (ci := 5) (q0 := 33) rfl Xa_33, fun U hU hW => ⟨rfl, by rw [hU], by rw [hU]; exact hP, va_K.moved hW.alike hK⟩⟩ rfl rfl hl.1 rfl (lv_room (Nat.le_of_ble_eq_true rfl)) d_LW_law_184 ⟨by show _ ≤ 601024; omega, by show _ ≤ 7293000; omega⟩) hS (fun q _ h => hAS _ hS.1 q h) (fun q h => hAS _ hS.1 q h) (fun r5 u5 t H locs ht9 hvm hw hB hz1 hk1 hS => ?_)
        obtain ⟨hP, hK9⟩ := hB
        rw [ht9] at hP
        rw [hw, Option.bind_some] at hf
        dsimp only at hf
        refine lv_istore (lv' := [(6, .int r5), (5, .int r4), (0, .ref b), (1, .ref (ad 0)), (2, .ref (ad 33)), (3, .ref (ad 38)), (4, .int x4)]) hx hb d_LW_law_187 hl (by decide) rfl (fun ls hl => ?_)
        refine lv_aload_n hx hb d_LW_law_189 rfl (lv_at hl 4 rfl) ?_
        refine va_calli (va_runV (As := []) (rest := []) ⟨hx, hb, hml, hown, ht⟩ (c_RM_thrown l D cA ad hI H.size u5 (fun hn => hs (by rw [hn] at hf; exact hf.symm))) (cwV 0 ht (good_G (gV mM_LW_74 mI_RM_thrown mV_RM_thrown mN_RM mk_RM_thrown)) rfl rfl rfl (by decide +kernel) ⟨Nat.le_of_ble_eq_true rfl, Nat.le_of_ble_eq_true rfl⟩) ⟨fun a U g mk q => ⟨q.1, q.2.1, q.2.2.1, va_K.moved (u := U) (U := U.calling g mk a) (Vm.Alike.refl U.vm) q.2.2.2⟩, va_recv hK hP (ci := 5) (q0 := 33) rfl Xa_33, fun U hU hW => ⟨rfl, by rw [hU], by rw [hU]; exact hP, va_K.moved hW.alike hK⟩⟩ rfl rfl hl.1 rfl (lv_room (Nat.le_of_ble_eq_true rfl)) d_LW_law_190 ⟨by show _ ≤ 601024; omega, by show _ ≤ 7293000; omega⟩) hS (fun q _ h => hAS _ hS.1 q h) (fun q h => hAS _ hS.1 q h) (fun r6 _ t H locs ht9 hvm hw hB hz1 hk1 hS => ?_)
        obtain ⟨hP, hK9⟩ := hB
        rw [ht9] at hP
        rw [hw, Option.bind_some] at hf
        refine lv_iload hx hb d_LW_law_193 (lv_at hl 1 rfl) ?_
        refine lv_icmp_eq (tgt := 200) hx hb d_LW_law_195 (by decide) (fun c7 => ?_) (fun c7 => ?_)
        · rw [if_pos c7] at hf
          refine lv_iload hx hb d_LW_law_200 (lv_at hl 1 rfl) ?_
          refine lv_if_ne (tgt := 217) hx hb d_LW_law_202 (by decide) (fun c8 => ?_) (fun c8 => ?_)
          · rw [if_neg c8] at hf
            refine lv_goto (tgt := 1006) hx hb d_LW_law_217 (by decide) ?_
            refine lv_iinc (v := x4 + 4) (lv' := [(4, .int (x4 + 4)), (6, .int r5), (5, .int r4), (0, .ref b), (1, .ref (ad 0)), (2, .ref (ad 33)), (3, .ref (ad 38))]) hx hb d_LW_law_1006 hl (k := 6) rfl rfl (by decide) rfl (fun ls hl => ?_)
            refine lv_goto (tgt := 43) hx hb d_LW_law_1009 (by decide) ?_
            refine W.widen (k := cb + 3 * (k + 1)) (n := sb + 18 * (k + 1)) (by omega) (by omega) ?_
            exact ih (k + 1) (x4 + 4) u5 _ _ _ (by omega) hP hS (lv_sub hl [3, 4, 5, 6, 0] rfl) (hf.trans h1)
          · rw [if_pos c8] at hf
            refine lv_aload_n hx hb d_LW_law_205 rfl (lv_at hl 5 rfl) ?_
            refine lv_iconst (v := 0) hx hb d_LW_law_206 (by decide) ?_
            by_cases b9 : oob (0 : Int32) 1
            · rw [if_pos b9] at hf; exact absurd hf.symm hs
            rw [if_neg b9] at hf
            refine va_lald (f := u5.2 38) hx hb hK hP 38 1 Xa_38 rfl b9 d_LW_law_207 ?_
            refine lv_iload hx hb d_LW_law_208 (lv_at hl 0 rfl) ?_
            refine lv_i2l hx hb d_LW_law_210 rfl ?_
            refine W.lcmp hx hb d_LW_law_211 ?_
            refine lv_if_eq (tgt := 217) hx hb d_LW_law_212 (by decide) (fun c10 => ?_) (fun c10 => ?_)
            · rw [if_pos c10] at hf
              refine lv_goto (tgt := 1006) hx hb d_LW_law_217 (by decide) ?_
              refine lv_iinc (v := x4 + 4) (lv' := [(4, .int (x4 + 4)), (6, .int r5), (5, .int r4), (0, .ref b), (1, .ref (ad 0)), (2, .ref (ad 33)), (3, .ref (ad 38))]) hx hb d_LW_law_1006 hl (k := 6) rfl rfl (by decide) rfl (fun ls hl => ?_)
              refine lv_goto (tgt := 43) hx hb d_LW_law_1009 (by decide) ?_
              refine W.widen (k := cb + 3 * (k + 1)) (n := sb + 18 * (k + 1)) (by omega) (by omega) ?_
              exact ih (k + 1) (x4 + 4) u5 _ _ _ (by omega) hP hS (lv_sub hl [3, 4, 5, 6, 0] rfl) (hf.trans h1)
            · rw [if_neg c10] at hf
              refine lv_iconst (v := 0) hx hb d_LW_law_215 (by decide) ?_
              exact absurd (hf.trans h1) (by decide)
        · rw [if_neg c7] at hf
          refine lv_iconst (v := 0) hx hb d_LW_law_198 (by decide) ?_
          exact absurd (hf.trans h1) (by decide)
      rw [if_neg s1] at hf
      by_cases s2 : ((xs x4.toNatClampNeg) &&& (15 : Int32)) = 2
      · rw [if_pos s2] at hf
        refine lv_tableIn (off := 161) (tgt := 220) hx hb d_LW_law_59 (by rw [s2]; decide) (by rw [s2]; decide) (by rw [s2]; decide) (by decide) ?_
        skip
        refine lv_aload_n hx hb d_LW_law_220 rfl (lv_at hl 1 rfl) ?_
        refine lv_aload_n hx hb d_LW_law_221 rfl (lv_at hl 0 rfl) ?_
        refine lv_iload hx hb d_LW_law_222 (lv_at hl 4 rfl) ?_
        refine lv_iconst (v := 1) hx hb d_LW_law_224 (by decide) ?_
        refine lv_iadd hx hb d_LW_law_225 ?_
        by_cases b11 : oob (x4 + (1 : Int32)) L
        · rw [if_pos b11] at hf; exact absurd hf.symm hs
        rw [if_neg b11] at hf
        refine va_sld hx hb hX hbl hbA hS b11 d_LW_law_226 ?_
        refine lv_aload_n hx hb d_LW_law_227 rfl (lv_at hl 0 rfl) ?_
        refine lv_iload hx hb d_LW_law_228 (lv_at hl 4 rfl) ?_
        refine lv_iconst (v := 2) hx hb d_LW_law_230 (by decide) ?_
        refine lv_iadd hx hb d_LW_law_231 ?_
        by_cases b12 : oob (x4 + (2 : Int32)) L
        · rw [if_pos b12] at hf; exact absurd hf.symm hs
        rw [if_neg b12] at hf
        refine va_sld hx hb hX hbl hbA hS b12 d_LW_law_232 ?_
        refine lv_aload_n hx hb d_LW_law_233 rfl (lv_at hl 0 rfl) ?_
        refine lv_iload hx hb d_LW_law_234 (lv_at hl 4 rfl) ?_
        refine lv_iconst (v := 3) hx hb d_LW_law_236 (by decide) ?_
        refine lv_iadd hx hb d_LW_law_237 ?_
        by_cases b13 : oob (x4 + (3 : Int32)) L
        · rw [if_pos b13] at hf; exact absurd hf.symm hs
        rw [if_neg b13] at hf
        refine va_sld hx hb hX hbl hbA hS b13 d_LW_law_238 ?_
        refine lv_if_eq (tgt := 246) hx hb d_LW_law_239 (by decide) (fun c14 => ?_) (fun c14 => ?_)
        · rw [if_pos c14] at hf
          refine lv_iconst (v := 0) hx hb d_LW_law_246 (by decide) ?_
          refine lv_aload_n hx hb d_LW_law_247 rfl (lv_at hl 3 rfl) ?_
          refine va_calli (vx_runSW (As := [.ref (ad 0), .int (xs (x4 + (1 : Int32)).toNatClampNeg), .int (xs (x4 + (2 : Int32)).toNatClampNeg), .int (0 : Int32), .ref (ad 38)]) (rest := []) ⟨hx, hb, hml, hown, ht⟩ (c_LW_must l hlt D cA ad hI H.size (xs (x4 + (1 : Int32)).toNatClampNeg) (xs (x4 + (2 : Int32)).toNatClampNeg) (0 : Int32) S (fun hn => hs (by rw [hn] at hf; exact hf.symm))) (vx_cwSW 5 ht (good_G (gS mM_LW_80 mS_LW_must mN_LW mk_LW_must)) rfl rfl rfl (by decide +kernel) ⟨Nat.le_of_ble_eq_true rfl, Nat.le_of_ble_eq_true rfl⟩) ⟨fun a U g mk q => ⟨q.1, q.2.1, q.2.2.1, va_K.moved (u := U) (U := U.calling g mk a) (Vm.Alike.refl U.vm) q.2.2.2.1, ZX.call q.2.2.2.2⟩, fun U hU hW => ⟨rfl, by rw [hU], by rw [hU]; exact hP, va_K.moved hW.alike hK, hZ.to hS (hAS _ hS.1) hU hW⟩⟩ rfl rfl hl.1 rfl (lv_room (Nat.le_of_ble_eq_true rfl)) d_LW_law_248 ⟨by show _ ≤ 601024; omega, by show _ ≤ 7293000; omega⟩) hS (fun q _ h => hAS _ hS.1 q h) (fun q h => hAS _ hS.1 q h) (fun r7 u7 t H locs ht9 hvm hw hB hz1 hk1 hS => ?_)
          obtain ⟨hP, hK9⟩ := hB
          rw [ht9] at hP
          rw [hw, Option.bind_some] at hf
          dsimp only at hf
          refine lv_istore (lv' := [(5, .int r7), (0, .ref b), (1, .ref (ad 0)), (2, .ref (ad 33)), (3, .ref (ad 38)), (4, .int x4)]) hx hb d_LW_law_251 hl (by decide) rfl (fun ls hl => ?_)
          refine lv_aload_n hx hb d_LW_law_253 rfl (lv_at hl 3 rfl) ?_
          refine lv_aload_n hx hb d_LW_law_254 rfl (lv_at hl 1 rfl) ?_
          refine lv_iload hx hb d_LW_law_255 (lv_at hl 5 rfl) ?_
          refine lv_iconst (v := 1) hx hb d_LW_law_257 (by decide) ?_
          refine lv_iadd hx hb d_LW_law_258 ?_
          refine va_sld hx hb hX hbl hbA hS b11 d_LW_law_259 ?_
          refine lv_aload_n hx hb d_LW_law_260 rfl (lv_at hl 1 rfl) ?_
          refine lv_iload hx hb d_LW_law_261 (lv_at hl 5 rfl) ?_
          refine lv_iconst (v := 2) hx hb d_LW_law_263 (by decide) ?_
          refine lv_iadd hx hb d_LW_law_264 ?_
          refine va_sld hx hb hX hbl hbA hS b12 d_LW_law_265 ?_
          refine lv_aload_n hx hb d_LW_law_266 rfl (lv_at hl 1 rfl) ?_
          refine lv_iload hx hb d_LW_law_267 (lv_at hl 5 rfl) ?_
          refine lv_iconst (v := 3) hx hb d_LW_law_269 (by decide) ?_
          refine lv_iadd hx hb d_LW_law_270 ?_
          refine va_sld hx hb hX hbl hbA hS b13 d_LW_law_271 ?_
          refine lv_if_eq (tgt := 279) hx hb d_LW_law_272 (by decide) (fun c15 => ?_) (fun c15 => ?_)
          · rw [if_pos c15] at hf
            refine lv_iconst (v := 0) hx hb d_LW_law_279 (by decide) ?_
            refine va_calli (va_runV (As := [.int (xs (x4 + (1 : Int32)).toNatClampNeg), .int (xs (x4 + (2 : Int32)).toNatClampNeg), .int (0 : Int32)]) (rest := []) ⟨hx, hb, hml, hown, ht⟩ (c_RM_must l D cA ad hI H.size (xs (x4 + (1 : Int32)).toNatClampNeg) (xs (x4 + (2 : Int32)).toNatClampNeg) (0 : Int32) u7 (fun hn => hs (by rw [hn] at hf; exact hf.symm))) (cwV 3 ht (good_G (gV mM_LW_83 mI_RM_must mV_RM_must mN_RM mk_RM_must)) rfl rfl rfl (by decide +kernel) ⟨Nat.le_of_ble_eq_true rfl, Nat.le_of_ble_eq_true rfl⟩) ⟨fun a U g mk q => ⟨q.1, q.2.1, q.2.2.1, va_K.moved (u := U) (U := U.calling g mk a) (Vm.Alike.refl U.vm) q.2.2.2⟩, va_recv hK hP (ci := 5) (q0 := 33) rfl Xa_33, fun U hU hW => ⟨rfl, by rw [hU], by rw [hU]; exact hP, va_K.moved hW.alike hK⟩⟩ rfl rfl hl.1 rfl (lv_room (Nat.le_of_ble_eq_true rfl)) d_LW_law_280 ⟨by show _ ≤ 601024; omega, by show _ ≤ 7293000; omega⟩) hS (fun q _ h => hAS _ hS.1 q h) (fun q h => hAS _ hS.1 q h) (fun r8 u8 t H locs ht9 hvm hw hB hz1 hk1 hS => ?_)
            obtain ⟨hP, hK9⟩ := hB
            rw [ht9] at hP
            obtain ⟨hw, hz8⟩ := hw
            rw [hw, Option.bind_some] at hf
            dsimp only at hf
            refine lv_istore (lv' := [(6, .int r8), (5, .int r7), (0, .ref b), (1, .ref (ad 0)), (2, .ref (ad 33)), (3, .ref (ad 38)), (4, .int x4)]) hx hb d_LW_law_283 hl (by decide) rfl (fun ls hl => ?_)
            refine lv_aload_n hx hb d_LW_law_285 rfl (lv_at hl 4 rfl) ?_
            refine va_calli (va_runV (As := []) (rest := []) ⟨hx, hb, hml, hown, ht⟩ (c_RM_thrown l D cA ad hI H.size u8 (fun hn => hs (by rw [hn] at hf; exact hf.symm))) (cwV 0 ht (good_G (gV mM_LW_74 mI_RM_thrown mV_RM_thrown mN_RM mk_RM_thrown)) rfl rfl rfl (by decide +kernel) ⟨Nat.le_of_ble_eq_true rfl, Nat.le_of_ble_eq_true rfl⟩) ⟨fun a U g mk q => ⟨q.1, q.2.1, q.2.2.1, va_K.moved (u := U) (U := U.calling g mk a) (Vm.Alike.refl U.vm) q.2.2.2⟩, va_recv hK hP (ci := 5) (q0 := 33) rfl Xa_33, fun U hU hW => ⟨rfl, by rw [hU], by rw [hU]; exact hP, va_K.moved hW.alike hK⟩⟩ rfl rfl hl.1 rfl (lv_room (Nat.le_of_ble_eq_true rfl)) d_LW_law_286 ⟨by show _ ≤ 601024; omega, by show _ ≤ 7293000; omega⟩) hS (fun q _ h => hAS _ hS.1 q h) (fun q h => hAS _ hS.1 q h) (fun r9 _ t H locs ht9 hvm hw hB hz1 hk1 hS => ?_)
            obtain ⟨hP, hK9⟩ := hB
            rw [ht9] at hP
            rw [hw, Option.bind_some] at hf
            refine lv_iload hx hb d_LW_law_289 (lv_at hl 1 rfl) ?_
            refine lv_icmp_eq (tgt := 296) hx hb d_LW_law_291 (by decide) (fun c16 => ?_) (fun c16 => ?_)
            · rw [if_pos c16] at hf
              refine lv_iload hx hb d_LW_law_296 (lv_at hl 1 rfl) ?_
              refine lv_if_ne (tgt := 320) hx hb d_LW_law_298 (by decide) (fun c17 => ?_) (fun c17 => ?_)
              · rw [if_neg c17] at hf
                refine lv_goto (tgt := 1006) hx hb d_LW_law_320 (by decide) ?_
                refine lv_iinc (v := x4 + 4) (lv' := [(4, .int (x4 + 4)), (6, .int r8), (5, .int r7), (0, .ref b), (1, .ref (ad 0)), (2, .ref (ad 33)), (3, .ref (ad 38))]) hx hb d_LW_law_1006 hl (k := 6) rfl rfl (by decide) rfl (fun ls hl => ?_)
                refine lv_goto (tgt := 43) hx hb d_LW_law_1009 (by decide) ?_
                refine W.widen (k := cb + 3 * (k + 1)) (n := sb + 18 * (k + 1)) (by omega) (by omega) ?_
                exact ih (k + 1) (x4 + 4) u8 _ _ _ (by omega) hP hS (lv_sub hl [3, 4, 5, 6, 0] rfl) (hf.trans h1)
              · rw [if_pos c17] at hf
                refine lv_aload_n hx hb d_LW_law_301 rfl (lv_at hl 5 rfl) ?_
                refine lv_iconst (v := 0) hx hb d_LW_law_302 (by decide) ?_
                by_cases b18 : oob (0 : Int32) 1
                · rw [if_pos b18] at hf; exact absurd hf.symm hs
                rw [if_neg b18] at hf
                refine va_lald (f := u8.2 38) hx hb hK hP 38 1 Xa_38 rfl b18 d_LW_law_303 ?_
                refine lv_iload hx hb d_LW_law_304 (lv_at hl 0 rfl) ?_
                refine lv_if_eq (tgt := 313) hx hb d_LW_law_306 (by decide) (fun c19 => ?_) (fun c19 => ?_)
                · rw [if_pos c19] at hf
                  refine lv_lconst (v := 0) hx hb d_LW_law_313 (by decide) ?_
                  refine W.lcmp hx hb d_LW_law_314 ?_
                  refine lv_if_eq (tgt := 320) hx hb d_LW_law_315 (by decide) (fun c20 => ?_) (fun c20 => ?_)
                  · rw [if_pos c20] at hf
                    refine lv_goto (tgt := 1006) hx hb d_LW_law_320 (by decide) ?_
                    refine lv_iinc (v := x4 + 4) (lv' := [(4, .int (x4 + 4)), (6, .int r8), (5, .int r7), (0, .ref b), (1, .ref (ad 0)), (2, .ref (ad 33)), (3, .ref (ad 38))]) hx hb d_LW_law_1006 hl (k := 6) rfl rfl (by decide) rfl (fun ls hl => ?_)
                    refine lv_goto (tgt := 43) hx hb d_LW_law_1009 (by decide) ?_
                    refine W.widen (k := cb + 3 * (k + 1)) (n := sb + 18 * (k + 1)) (by omega) (by omega) ?_
                    exact ih (k + 1) (x4 + 4) u8 _ _ _ (by omega) hP hS (lv_sub hl [3, 4, 5, 6, 0] rfl) (hf.trans h1)
                  · rw [if_neg c20] at hf
                    refine lv_iconst (v := 0) hx hb d_LW_law_318 (by decide) ?_
                    exact absurd (hf.trans h1) (by decide)
                · rw [if_neg c19] at hf
                  refine lv_lconst (v := 1) hx hb d_LW_law_309 (by decide) ?_
                  refine lv_goto (tgt := 314) hx hb d_LW_law_310 (by decide) ?_
                  refine W.lcmp hx hb d_LW_law_314 ?_
                  refine lv_if_eq (tgt := 320) hx hb d_LW_law_315 (by decide) (fun c21 => ?_) (fun c21 => ?_)
                  · rw [if_pos c21] at hf
                    refine lv_goto (tgt := 1006) hx hb d_LW_law_320 (by decide) ?_
                    refine lv_iinc (v := x4 + 4) (lv' := [(4, .int (x4 + 4)), (6, .int r8), (5, .int r7), (0, .ref b), (1, .ref (ad 0)), (2, .ref (ad 33)), (3, .ref (ad 38))]) hx hb d_LW_law_1006 hl (k := 6) rfl rfl (by decide) rfl (fun ls hl => ?_)
                    refine lv_goto (tgt := 43) hx hb d_LW_law_1009 (by decide) ?_
                    refine W.widen (k := cb + 3 * (k + 1)) (n := sb + 18 * (k + 1)) (by omega) (by omega) ?_
                    exact ih (k + 1) (x4 + 4) u8 _ _ _ (by omega) hP hS (lv_sub hl [3, 4, 5, 6, 0] rfl) (hf.trans h1)
                  · rw [if_neg c21] at hf
                    refine lv_iconst (v := 0) hx hb d_LW_law_318 (by decide) ?_
                    exact absurd (hf.trans h1) (by decide)
            · rw [if_neg c16] at hf
              refine lv_iconst (v := 0) hx hb d_LW_law_294 (by decide) ?_
              exact absurd (hf.trans h1) (by decide)
          · rw [if_neg c15] at hf
            refine lv_iconst (v := 1) hx hb d_LW_law_275 (by decide) ?_
            refine lv_goto (tgt := 280) hx hb d_LW_law_276 (by decide) ?_
            refine va_calli (va_runV (As := [.int (xs (x4 + (1 : Int32)).toNatClampNeg), .int (xs (x4 + (2 : Int32)).toNatClampNeg), .int (1 : Int32)]) (rest := []) ⟨hx, hb, hml, hown, ht⟩ (c_RM_must l D cA ad hI H.size (xs (x4 + (1 : Int32)).toNatClampNeg) (xs (x4 + (2 : Int32)).toNatClampNeg) (1 : Int32) u7 (fun hn => hs (by rw [hn] at hf; exact hf.symm))) (cwV 3 ht (good_G (gV mM_LW_83 mI_RM_must mV_RM_must mN_RM mk_RM_must)) rfl rfl rfl (by decide +kernel) ⟨Nat.le_of_ble_eq_true rfl, Nat.le_of_ble_eq_true rfl⟩) ⟨fun a U g mk q => ⟨q.1, q.2.1, q.2.2.1, va_K.moved (u := U) (U := U.calling g mk a) (Vm.Alike.refl U.vm) q.2.2.2⟩, va_recv hK hP (ci := 5) (q0 := 33) rfl Xa_33, fun U hU hW => ⟨rfl, by rw [hU], by rw [hU]; exact hP, va_K.moved hW.alike hK⟩⟩ rfl rfl hl.1 rfl (lv_room (Nat.le_of_ble_eq_true rfl)) d_LW_law_280 ⟨by show _ ≤ 601024; omega, by show _ ≤ 7293000; omega⟩) hS (fun q _ h => hAS _ hS.1 q h) (fun q h => hAS _ hS.1 q h) (fun r10 u10 t H locs ht9 hvm hw hB hz1 hk1 hS => ?_)
            obtain ⟨hP, hK9⟩ := hB
            rw [ht9] at hP
            obtain ⟨hw, hz10⟩ := hw
            rw [hw, Option.bind_some] at hf
            dsimp only at hf
            refine lv_istore (lv' := [(6, .int r10), (5, .int r7), (0, .ref b), (1, .ref (ad 0)), (2, .ref (ad 33)), (3, .ref (ad 38)), (4, .int x4)]) hx hb d_LW_law_283 hl (by decide) rfl (fun ls hl => ?_)
            refine lv_aload_n hx hb d_LW_law_285 rfl (lv_at hl 4 rfl) ?_
            refine va_calli (va_runV (As := []) (rest := []) ⟨hx, hb, hml, hown, ht⟩ (c_RM_thrown l D cA ad hI H.size u10 (fun hn => hs (by rw [hn] at hf; exact hf.symm))) (cwV 0 ht (good_G (gV mM_LW_74 mI_RM_thrown mV_RM_thrown mN_RM mk_RM_thrown)) rfl rfl rfl (by decide +kernel) ⟨Nat.le_of_ble_eq_true rfl, Nat.le_of_ble_eq_true rfl⟩) ⟨fun a U g mk q => ⟨q.1, q.2.1, q.2.2.1, va_K.moved (u := U) (U := U.calling g mk a) (Vm.Alike.refl U.vm) q.2.2.2⟩, va_recv hK hP (ci := 5) (q0 := 33) rfl Xa_33, fun U hU hW => ⟨rfl, by rw [hU], by rw [hU]; exact hP, va_K.moved hW.alike hK⟩⟩ rfl rfl hl.1 rfl (lv_room (Nat.le_of_ble_eq_true rfl)) d_LW_law_286 ⟨by show _ ≤ 601024; omega, by show _ ≤ 7293000; omega⟩) hS (fun q _ h => hAS _ hS.1 q h) (fun q h => hAS _ hS.1 q h) (fun r11 _ t H locs ht9 hvm hw hB hz1 hk1 hS => ?_)
            obtain ⟨hP, hK9⟩ := hB
            rw [ht9] at hP
            rw [hw, Option.bind_some] at hf
            refine lv_iload hx hb d_LW_law_289 (lv_at hl 1 rfl) ?_
            refine lv_icmp_eq (tgt := 296) hx hb d_LW_law_291 (by decide) (fun c22 => ?_) (fun c22 => ?_)
            · rw [if_pos c22] at hf
              refine lv_iload hx hb d_LW_law_296 (lv_at hl 1 rfl) ?_
              refine lv_if_ne (tgt := 320) hx hb d_LW_law_298 (by decide) (fun c23 => ?_) (fun c23 => ?_)
              · rw [if_neg c23] at hf
                refine lv_goto (tgt := 1006) hx hb d_LW_law_320 (by decide) ?_
                refine lv_iinc (v := x4 + 4) (lv' := [(4, .int (x4 + 4)), (6, .int r10), (5, .int r7), (0, .ref b), (1, .ref (ad 0)), (2, .ref (ad 33)), (3, .ref (ad 38))]) hx hb d_LW_law_1006 hl (k := 6) rfl rfl (by decide) rfl (fun ls hl => ?_)
                refine lv_goto (tgt := 43) hx hb d_LW_law_1009 (by decide) ?_
                refine W.widen (k := cb + 3 * (k + 1)) (n := sb + 18 * (k + 1)) (by omega) (by omega) ?_
                exact ih (k + 1) (x4 + 4) u10 _ _ _ (by omega) hP hS (lv_sub hl [3, 4, 5, 6, 0] rfl) (hf.trans h1)
              · rw [if_pos c23] at hf
                refine lv_aload_n hx hb d_LW_law_301 rfl (lv_at hl 5 rfl) ?_
                refine lv_iconst (v := 0) hx hb d_LW_law_302 (by decide) ?_
                by_cases b24 : oob (0 : Int32) 1
                · rw [if_pos b24] at hf; exact absurd hf.symm hs
                rw [if_neg b24] at hf
                refine va_lald (f := u10.2 38) hx hb hK hP 38 1 Xa_38 rfl b24 d_LW_law_303 ?_
                refine lv_iload hx hb d_LW_law_304 (lv_at hl 0 rfl) ?_
                refine lv_if_eq (tgt := 313) hx hb d_LW_law_306 (by decide) (fun c25 => ?_) (fun c25 => ?_)
                · rw [if_pos c25] at hf
                  refine lv_lconst (v := 0) hx hb d_LW_law_313 (by decide) ?_
                  refine W.lcmp hx hb d_LW_law_314 ?_
                  refine lv_if_eq (tgt := 320) hx hb d_LW_law_315 (by decide) (fun c26 => ?_) (fun c26 => ?_)
                  · rw [if_pos c26] at hf
                    refine lv_goto (tgt := 1006) hx hb d_LW_law_320 (by decide) ?_
                    refine lv_iinc (v := x4 + 4) (lv' := [(4, .int (x4 + 4)), (6, .int r10), (5, .int r7), (0, .ref b), (1, .ref (ad 0)), (2, .ref (ad 33)), (3, .ref (ad 38))]) hx hb d_LW_law_1006 hl (k := 6) rfl rfl (by decide) rfl (fun ls hl => ?_)
                    refine lv_goto (tgt := 43) hx hb d_LW_law_1009 (by decide) ?_
                    refine W.widen (k := cb + 3 * (k + 1)) (n := sb + 18 * (k + 1)) (by omega) (by omega) ?_
                    exact ih (k + 1) (x4 + 4) u10 _ _ _ (by omega) hP hS (lv_sub hl [3, 4, 5, 6, 0] rfl) (hf.trans h1)
                  · rw [if_neg c26] at hf
                    refine lv_iconst (v := 0) hx hb d_LW_law_318 (by decide) ?_
                    exact absurd (hf.trans h1) (by decide)
                · rw [if_neg c25] at hf
                  refine lv_lconst (v := 1) hx hb d_LW_law_309 (by decide) ?_
                  refine lv_goto (tgt := 314) hx hb d_LW_law_310 (by decide) ?_
                  refine W.lcmp hx hb d_LW_law_314 ?_
                  refine lv_if_eq (tgt := 320) hx hb d_LW_law_315 (by decide) (fun c27 => ?_) (fun c27 => ?_)
                  · rw [if_pos c27] at hf
                    refine lv_goto (tgt := 1006) hx hb d_LW_law_320 (by decide) ?_
                    refine lv_iinc (v := x4 + 4) (lv' := [(4, .int (x4 + 4)), (6, .int r10), (5, .int r7), (0, .ref b), (1, .ref (ad 0)), (2, .ref (ad 33)), (3, .ref (ad 38))]) hx hb d_LW_law_1006 hl (k := 6) rfl rfl (by decide) rfl (fun ls hl => ?_)
                    refine lv_goto (tgt := 43) hx hb d_LW_law_1009 (by decide) ?_
                    refine W.widen (k := cb + 3 * (k + 1)) (n := sb + 18 * (k + 1)) (by omega) (by omega) ?_
                    exact ih (k + 1) (x4 + 4) u10 _ _ _ (by omega) hP hS (lv_sub hl [3, 4, 5, 6, 0] rfl) (hf.trans h1)
                  · rw [if_neg c27] at hf
                    refine lv_iconst (v := 0) hx hb d_LW_law_318 (by decide) ?_
                    exact absurd (hf.trans h1) (by decide)
            · rw [if_neg c22] at hf
              refine lv_iconst (v := 0) hx hb d_LW_law_294 (by decide) ?_
              exact absurd (hf.trans h1) (by decide)
        · rw [if_neg c14] at hf
          refine lv_iconst (v := 1) hx hb d_LW_law_242 (by decide) ?_
          refine lv_goto (tgt := 247) hx hb d_LW_law_243 (by decide) ?_
          refine lv_aload_n hx hb d_LW_law_247 rfl (lv_at hl 3 rfl) ?_
          refine va_calli (vx_runSW (As := [.ref (ad 0), .int (xs (x4 + (1 : Int32)).toNatClampNeg), .int (xs (x4 + (2 : Int32)).toNatClampNeg), .int (1 : Int32), .ref (ad 38)]) (rest := []) ⟨hx, hb, hml, hown, ht⟩ (c_LW_must l hlt D cA ad hI H.size (xs (x4 + (1 : Int32)).toNatClampNeg) (xs (x4 + (2 : Int32)).toNatClampNeg) (1 : Int32) S (fun hn => hs (by rw [hn] at hf; exact hf.symm))) (vx_cwSW 5 ht (good_G (gS mM_LW_80 mS_LW_must mN_LW mk_LW_must)) rfl rfl rfl (by decide +kernel) ⟨Nat.le_of_ble_eq_true rfl, Nat.le_of_ble_eq_true rfl⟩) ⟨fun a U g mk q => ⟨q.1, q.2.1, q.2.2.1, va_K.moved (u := U) (U := U.calling g mk a) (Vm.Alike.refl U.vm) q.2.2.2.1, ZX.call q.2.2.2.2⟩, fun U hU hW => ⟨rfl, by rw [hU], by rw [hU]; exact hP, va_K.moved hW.alike hK, hZ.to hS (hAS _ hS.1) hU hW⟩⟩ rfl rfl hl.1 rfl (lv_room (Nat.le_of_ble_eq_true rfl)) d_LW_law_248 ⟨by show _ ≤ 601024; omega, by show _ ≤ 7293000; omega⟩) hS (fun q _ h => hAS _ hS.1 q h) (fun q h => hAS _ hS.1 q h) (fun r12 u12 t H locs ht9 hvm hw hB hz1 hk1 hS => ?_)
          obtain ⟨hP, hK9⟩ := hB
          rw [ht9] at hP
          rw [hw, Option.bind_some] at hf
          dsimp only at hf
          refine lv_istore (lv' := [(5, .int r12), (0, .ref b), (1, .ref (ad 0)), (2, .ref (ad 33)), (3, .ref (ad 38)), (4, .int x4)]) hx hb d_LW_law_251 hl (by decide) rfl (fun ls hl => ?_)
          refine lv_aload_n hx hb d_LW_law_253 rfl (lv_at hl 3 rfl) ?_
          refine lv_aload_n hx hb d_LW_law_254 rfl (lv_at hl 1 rfl) ?_
          refine lv_iload hx hb d_LW_law_255 (lv_at hl 5 rfl) ?_
          refine lv_iconst (v := 1) hx hb d_LW_law_257 (by decide) ?_
          refine lv_iadd hx hb d_LW_law_258 ?_
          refine va_sld hx hb hX hbl hbA hS b11 d_LW_law_259 ?_
          refine lv_aload_n hx hb d_LW_law_260 rfl (lv_at hl 1 rfl) ?_
          refine lv_iload hx hb d_LW_law_261 (lv_at hl 5 rfl) ?_
          refine lv_iconst (v := 2) hx hb d_LW_law_263 (by decide) ?_
          refine lv_iadd hx hb d_LW_law_264 ?_
          refine va_sld hx hb hX hbl hbA hS b12 d_LW_law_265 ?_
          refine lv_aload_n hx hb d_LW_law_266 rfl (lv_at hl 1 rfl) ?_
          refine lv_iload hx hb d_LW_law_267 (lv_at hl 5 rfl) ?_
          refine lv_iconst (v := 3) hx hb d_LW_law_269 (by decide) ?_
          refine lv_iadd hx hb d_LW_law_270 ?_
          refine va_sld hx hb hX hbl hbA hS b13 d_LW_law_271 ?_
          refine lv_if_eq (tgt := 279) hx hb d_LW_law_272 (by decide) (fun c28 => ?_) (fun c28 => ?_)
          · rw [if_pos c28] at hf
            refine lv_iconst (v := 0) hx hb d_LW_law_279 (by decide) ?_
            refine va_calli (va_runV (As := [.int (xs (x4 + (1 : Int32)).toNatClampNeg), .int (xs (x4 + (2 : Int32)).toNatClampNeg), .int (0 : Int32)]) (rest := []) ⟨hx, hb, hml, hown, ht⟩ (c_RM_must l D cA ad hI H.size (xs (x4 + (1 : Int32)).toNatClampNeg) (xs (x4 + (2 : Int32)).toNatClampNeg) (0 : Int32) u12 (fun hn => hs (by rw [hn] at hf; exact hf.symm))) (cwV 3 ht (good_G (gV mM_LW_83 mI_RM_must mV_RM_must mN_RM mk_RM_must)) rfl rfl rfl (by decide +kernel) ⟨Nat.le_of_ble_eq_true rfl, Nat.le_of_ble_eq_true rfl⟩) ⟨fun a U g mk q => ⟨q.1, q.2.1, q.2.2.1, va_K.moved (u := U) (U := U.calling g mk a) (Vm.Alike.refl U.vm) q.2.2.2⟩, va_recv hK hP (ci := 5) (q0 := 33) rfl Xa_33, fun U hU hW => ⟨rfl, by rw [hU], by rw [hU]; exact hP, va_K.moved hW.alike hK⟩⟩ rfl rfl hl.1 rfl (lv_room (Nat.le_of_ble_eq_true rfl)) d_LW_law_280 ⟨by show _ ≤ 601024; omega, by show _ ≤ 7293000; omega⟩) hS (fun q _ h => hAS _ hS.1 q h) (fun q h => hAS _ hS.1 q h) (fun r13 u13 t H locs ht9 hvm hw hB hz1 hk1 hS => ?_)
            obtain ⟨hP, hK9⟩ := hB
            rw [ht9] at hP
            obtain ⟨hw, hz13⟩ := hw
            rw [hw, Option.bind_some] at hf
            dsimp only at hf
            refine lv_istore (lv' := [(6, .int r13), (5, .int r12), (0, .ref b), (1, .ref (ad 0)), (2, .ref (ad 33)), (3, .ref (ad 38)), (4, .int x4)]) hx hb d_LW_law_283 hl (by decide) rfl (fun ls hl => ?_)
            refine lv_aload_n hx hb d_LW_law_285 rfl (lv_at hl 4 rfl) ?_
            refine va_calli (va_runV (As := []) (rest := []) ⟨hx, hb, hml, hown, ht⟩ (c_RM_thrown l D cA ad hI H.size u13 (fun hn => hs (by rw [hn] at hf; exact hf.symm))) (cwV 0 ht (good_G (gV mM_LW_74 mI_RM_thrown mV_RM_thrown mN_RM mk_RM_thrown)) rfl rfl rfl (by decide +kernel) ⟨Nat.le_of_ble_eq_true rfl, Nat.le_of_ble_eq_true rfl⟩) ⟨fun a U g mk q => ⟨q.1, q.2.1, q.2.2.1, va_K.moved (u := U) (U := U.calling g mk a) (Vm.Alike.refl U.vm) q.2.2.2⟩, va_recv hK hP (ci := 5) (q0 := 33) rfl Xa_33, fun U hU hW => ⟨rfl, by rw [hU], by rw [hU]; exact hP, va_K.moved hW.alike hK⟩⟩ rfl rfl hl.1 rfl (lv_room (Nat.le_of_ble_eq_true rfl)) d_LW_law_286 ⟨by show _ ≤ 601024; omega, by show _ ≤ 7293000; omega⟩) hS (fun q _ h => hAS _ hS.1 q h) (fun q h => hAS _ hS.1 q h) (fun r14 _ t H locs ht9 hvm hw hB hz1 hk1 hS => ?_)
            obtain ⟨hP, hK9⟩ := hB
            rw [ht9] at hP
            rw [hw, Option.bind_some] at hf
            refine lv_iload hx hb d_LW_law_289 (lv_at hl 1 rfl) ?_
            refine lv_icmp_eq (tgt := 296) hx hb d_LW_law_291 (by decide) (fun c29 => ?_) (fun c29 => ?_)
            · rw [if_pos c29] at hf
              refine lv_iload hx hb d_LW_law_296 (lv_at hl 1 rfl) ?_
              refine lv_if_ne (tgt := 320) hx hb d_LW_law_298 (by decide) (fun c30 => ?_) (fun c30 => ?_)
              · rw [if_neg c30] at hf
                refine lv_goto (tgt := 1006) hx hb d_LW_law_320 (by decide) ?_
                refine lv_iinc (v := x4 + 4) (lv' := [(4, .int (x4 + 4)), (6, .int r13), (5, .int r12), (0, .ref b), (1, .ref (ad 0)), (2, .ref (ad 33)), (3, .ref (ad 38))]) hx hb d_LW_law_1006 hl (k := 6) rfl rfl (by decide) rfl (fun ls hl => ?_)
                refine lv_goto (tgt := 43) hx hb d_LW_law_1009 (by decide) ?_
                refine W.widen (k := cb + 3 * (k + 1)) (n := sb + 18 * (k + 1)) (by omega) (by omega) ?_
                exact ih (k + 1) (x4 + 4) u13 _ _ _ (by omega) hP hS (lv_sub hl [3, 4, 5, 6, 0] rfl) (hf.trans h1)
              · rw [if_pos c30] at hf
                refine lv_aload_n hx hb d_LW_law_301 rfl (lv_at hl 5 rfl) ?_
                refine lv_iconst (v := 0) hx hb d_LW_law_302 (by decide) ?_
                by_cases b31 : oob (0 : Int32) 1
                · rw [if_pos b31] at hf; exact absurd hf.symm hs
                rw [if_neg b31] at hf
                refine va_lald (f := u13.2 38) hx hb hK hP 38 1 Xa_38 rfl b31 d_LW_law_303 ?_
                refine lv_iload hx hb d_LW_law_304 (lv_at hl 0 rfl) ?_
                refine lv_if_eq (tgt := 313) hx hb d_LW_law_306 (by decide) (fun c32 => ?_) (fun c32 => ?_)
                · rw [if_pos c32] at hf
                  refine lv_lconst (v := 0) hx hb d_LW_law_313 (by decide) ?_
                  refine W.lcmp hx hb d_LW_law_314 ?_
                  refine lv_if_eq (tgt := 320) hx hb d_LW_law_315 (by decide) (fun c33 => ?_) (fun c33 => ?_)
                  · rw [if_pos c33] at hf
                    refine lv_goto (tgt := 1006) hx hb d_LW_law_320 (by decide) ?_
                    refine lv_iinc (v := x4 + 4) (lv' := [(4, .int (x4 + 4)), (6, .int r13), (5, .int r12), (0, .ref b), (1, .ref (ad 0)), (2, .ref (ad 33)), (3, .ref (ad 38))]) hx hb d_LW_law_1006 hl (k := 6) rfl rfl (by decide) rfl (fun ls hl => ?_)
                    refine lv_goto (tgt := 43) hx hb d_LW_law_1009 (by decide) ?_
                    refine W.widen (k := cb + 3 * (k + 1)) (n := sb + 18 * (k + 1)) (by omega) (by omega) ?_
                    exact ih (k + 1) (x4 + 4) u13 _ _ _ (by omega) hP hS (lv_sub hl [3, 4, 5, 6, 0] rfl) (hf.trans h1)
                  · rw [if_neg c33] at hf
                    refine lv_iconst (v := 0) hx hb d_LW_law_318 (by decide) ?_
                    exact absurd (hf.trans h1) (by decide)
                · rw [if_neg c32] at hf
                  refine lv_lconst (v := 1) hx hb d_LW_law_309 (by decide) ?_
                  refine lv_goto (tgt := 314) hx hb d_LW_law_310 (by decide) ?_
                  refine W.lcmp hx hb d_LW_law_314 ?_
                  refine lv_if_eq (tgt := 320) hx hb d_LW_law_315 (by decide) (fun c34 => ?_) (fun c34 => ?_)
                  · rw [if_pos c34] at hf
                    refine lv_goto (tgt := 1006) hx hb d_LW_law_320 (by decide) ?_
                    refine lv_iinc (v := x4 + 4) (lv' := [(4, .int (x4 + 4)), (6, .int r13), (5, .int r12), (0, .ref b), (1, .ref (ad 0)), (2, .ref (ad 33)), (3, .ref (ad 38))]) hx hb d_LW_law_1006 hl (k := 6) rfl rfl (by decide) rfl (fun ls hl => ?_)
                    refine lv_goto (tgt := 43) hx hb d_LW_law_1009 (by decide) ?_
                    refine W.widen (k := cb + 3 * (k + 1)) (n := sb + 18 * (k + 1)) (by omega) (by omega) ?_
                    exact ih (k + 1) (x4 + 4) u13 _ _ _ (by omega) hP hS (lv_sub hl [3, 4, 5, 6, 0] rfl) (hf.trans h1)
                  · rw [if_neg c34] at hf
                    refine lv_iconst (v := 0) hx hb d_LW_law_318 (by decide) ?_
                    exact absurd (hf.trans h1) (by decide)
            · rw [if_neg c29] at hf
              refine lv_iconst (v := 0) hx hb d_LW_law_294 (by decide) ?_
              exact absurd (hf.trans h1) (by decide)
          · rw [if_neg c28] at hf
            refine lv_iconst (v := 1) hx hb d_LW_law_275 (by decide) ?_
            refine lv_goto (tgt := 280) hx hb d_LW_law_276 (by decide) ?_
            refine va_calli (va_runV (As := [.int (xs (x4 + (1 : Int32)).toNatClampNeg), .int (xs (x4 + (2 : Int32)).toNatClampNeg), .int (1 : Int32)]) (rest := []) ⟨hx, hb, hml, hown, ht⟩ (c_RM_must l D cA ad hI H.size (xs (x4 + (1 : Int32)).toNatClampNeg) (xs (x4 + (2 : Int32)).toNatClampNeg) (1 : Int32) u12 (fun hn => hs (by rw [hn] at hf; exact hf.symm))) (cwV 3 ht (good_G (gV mM_LW_83 mI_RM_must mV_RM_must mN_RM mk_RM_must)) rfl rfl rfl (by decide +kernel) ⟨Nat.le_of_ble_eq_true rfl, Nat.le_of_ble_eq_true rfl⟩) ⟨fun a U g mk q => ⟨q.1, q.2.1, q.2.2.1, va_K.moved (u := U) (U := U.calling g mk a) (Vm.Alike.refl U.vm) q.2.2.2⟩, va_recv hK hP (ci := 5) (q0 := 33) rfl Xa_33, fun U hU hW => ⟨rfl, by rw [hU], by rw [hU]; exact hP, va_K.moved hW.alike hK⟩⟩ rfl rfl hl.1 rfl (lv_room (Nat.le_of_ble_eq_true rfl)) d_LW_law_280 ⟨by show _ ≤ 601024; omega, by show _ ≤ 7293000; omega⟩) hS (fun q _ h => hAS _ hS.1 q h) (fun q h => hAS _ hS.1 q h) (fun r15 u15 t H locs ht9 hvm hw hB hz1 hk1 hS => ?_)
            obtain ⟨hP, hK9⟩ := hB
            rw [ht9] at hP
            obtain ⟨hw, hz15⟩ := hw
            rw [hw, Option.bind_some] at hf
            dsimp only at hf
            refine lv_istore (lv' := [(6, .int r15), (5, .int r12), (0, .ref b), (1, .ref (ad 0)), (2, .ref (ad 33)), (3, .ref (ad 38)), (4, .int x4)]) hx hb d_LW_law_283 hl (by decide) rfl (fun ls hl => ?_)
            refine lv_aload_n hx hb d_LW_law_285 rfl (lv_at hl 4 rfl) ?_
            refine va_calli (va_runV (As := []) (rest := []) ⟨hx, hb, hml, hown, ht⟩ (c_RM_thrown l D cA ad hI H.size u15 (fun hn => hs (by rw [hn] at hf; exact hf.symm))) (cwV 0 ht (good_G (gV mM_LW_74 mI_RM_thrown mV_RM_thrown mN_RM mk_RM_thrown)) rfl rfl rfl (by decide +kernel) ⟨Nat.le_of_ble_eq_true rfl, Nat.le_of_ble_eq_true rfl⟩) ⟨fun a U g mk q => ⟨q.1, q.2.1, q.2.2.1, va_K.moved (u := U) (U := U.calling g mk a) (Vm.Alike.refl U.vm) q.2.2.2⟩, va_recv hK hP (ci := 5) (q0 := 33) rfl Xa_33, fun U hU hW => ⟨rfl, by rw [hU], by rw [hU]; exact hP, va_K.moved hW.alike hK⟩⟩ rfl rfl hl.1 rfl (lv_room (Nat.le_of_ble_eq_true rfl)) d_LW_law_286 ⟨by show _ ≤ 601024; omega, by show _ ≤ 7293000; omega⟩) hS (fun q _ h => hAS _ hS.1 q h) (fun q h => hAS _ hS.1 q h) (fun r16 _ t H locs ht9 hvm hw hB hz1 hk1 hS => ?_)
            obtain ⟨hP, hK9⟩ := hB
            rw [ht9] at hP
            rw [hw, Option.bind_some] at hf
            refine lv_iload hx hb d_LW_law_289 (lv_at hl 1 rfl) ?_
            refine lv_icmp_eq (tgt := 296) hx hb d_LW_law_291 (by decide) (fun c35 => ?_) (fun c35 => ?_)
            · rw [if_pos c35] at hf
              refine lv_iload hx hb d_LW_law_296 (lv_at hl 1 rfl) ?_
              refine lv_if_ne (tgt := 320) hx hb d_LW_law_298 (by decide) (fun c36 => ?_) (fun c36 => ?_)
              · rw [if_neg c36] at hf
                refine lv_goto (tgt := 1006) hx hb d_LW_law_320 (by decide) ?_
                refine lv_iinc (v := x4 + 4) (lv' := [(4, .int (x4 + 4)), (6, .int r15), (5, .int r12), (0, .ref b), (1, .ref (ad 0)), (2, .ref (ad 33)), (3, .ref (ad 38))]) hx hb d_LW_law_1006 hl (k := 6) rfl rfl (by decide) rfl (fun ls hl => ?_)
                refine lv_goto (tgt := 43) hx hb d_LW_law_1009 (by decide) ?_
                refine W.widen (k := cb + 3 * (k + 1)) (n := sb + 18 * (k + 1)) (by omega) (by omega) ?_
                exact ih (k + 1) (x4 + 4) u15 _ _ _ (by omega) hP hS (lv_sub hl [3, 4, 5, 6, 0] rfl) (hf.trans h1)
              · rw [if_pos c36] at hf
                refine lv_aload_n hx hb d_LW_law_301 rfl (lv_at hl 5 rfl) ?_
                refine lv_iconst (v := 0) hx hb d_LW_law_302 (by decide) ?_
                by_cases b37 : oob (0 : Int32) 1
                · rw [if_pos b37] at hf; exact absurd hf.symm hs
                rw [if_neg b37] at hf
                refine va_lald (f := u15.2 38) hx hb hK hP 38 1 Xa_38 rfl b37 d_LW_law_303 ?_
                refine lv_iload hx hb d_LW_law_304 (lv_at hl 0 rfl) ?_
                refine lv_if_eq (tgt := 313) hx hb d_LW_law_306 (by decide) (fun c38 => ?_) (fun c38 => ?_)
                · rw [if_pos c38] at hf
                  refine lv_lconst (v := 0) hx hb d_LW_law_313 (by decide) ?_
                  refine W.lcmp hx hb d_LW_law_314 ?_
                  refine lv_if_eq (tgt := 320) hx hb d_LW_law_315 (by decide) (fun c39 => ?_) (fun c39 => ?_)
                  · rw [if_pos c39] at hf
                    refine lv_goto (tgt := 1006) hx hb d_LW_law_320 (by decide) ?_
                    refine lv_iinc (v := x4 + 4) (lv' := [(4, .int (x4 + 4)), (6, .int r15), (5, .int r12), (0, .ref b), (1, .ref (ad 0)), (2, .ref (ad 33)), (3, .ref (ad 38))]) hx hb d_LW_law_1006 hl (k := 6) rfl rfl (by decide) rfl (fun ls hl => ?_)
                    refine lv_goto (tgt := 43) hx hb d_LW_law_1009 (by decide) ?_
                    refine W.widen (k := cb + 3 * (k + 1)) (n := sb + 18 * (k + 1)) (by omega) (by omega) ?_
                    exact ih (k + 1) (x4 + 4) u15 _ _ _ (by omega) hP hS (lv_sub hl [3, 4, 5, 6, 0] rfl) (hf.trans h1)
                  · rw [if_neg c39] at hf
                    refine lv_iconst (v := 0) hx hb d_LW_law_318 (by decide) ?_
                    exact absurd (hf.trans h1) (by decide)
                · rw [if_neg c38] at hf
                  refine lv_lconst (v := 1) hx hb d_LW_law_309 (by decide) ?_
                  refine lv_goto (tgt := 314) hx hb d_LW_law_310 (by decide) ?_
                  refine W.lcmp hx hb d_LW_law_314 ?_
                  refine lv_if_eq (tgt := 320) hx hb d_LW_law_315 (by decide) (fun c40 => ?_) (fun c40 => ?_)
                  · rw [if_pos c40] at hf
                    refine lv_goto (tgt := 1006) hx hb d_LW_law_320 (by decide) ?_
                    refine lv_iinc (v := x4 + 4) (lv' := [(4, .int (x4 + 4)), (6, .int r15), (5, .int r12), (0, .ref b), (1, .ref (ad 0)), (2, .ref (ad 33)), (3, .ref (ad 38))]) hx hb d_LW_law_1006 hl (k := 6) rfl rfl (by decide) rfl (fun ls hl => ?_)
                    refine lv_goto (tgt := 43) hx hb d_LW_law_1009 (by decide) ?_
                    refine W.widen (k := cb + 3 * (k + 1)) (n := sb + 18 * (k + 1)) (by omega) (by omega) ?_
                    exact ih (k + 1) (x4 + 4) u15 _ _ _ (by omega) hP hS (lv_sub hl [3, 4, 5, 6, 0] rfl) (hf.trans h1)
                  · rw [if_neg c40] at hf
                    refine lv_iconst (v := 0) hx hb d_LW_law_318 (by decide) ?_
                    exact absurd (hf.trans h1) (by decide)
            · rw [if_neg c35] at hf
              refine lv_iconst (v := 0) hx hb d_LW_law_294 (by decide) ?_
              exact absurd (hf.trans h1) (by decide)
      rw [if_neg s2] at hf
      by_cases s3 : ((xs x4.toNatClampNeg) &&& (15 : Int32)) = 3
      · rw [if_pos s3] at hf
        refine lv_tableIn (off := 264) (tgt := 323) hx hb d_LW_law_59 (by rw [s3]; decide) (by rw [s3]; decide) (by rw [s3]; decide) (by decide) ?_
        skip
        refine lv_aload_n hx hb d_LW_law_323 rfl (lv_at hl 1 rfl) ?_
        refine lv_aload_n hx hb d_LW_law_324 rfl (lv_at hl 0 rfl) ?_
        refine lv_iload hx hb d_LW_law_325 (lv_at hl 4 rfl) ?_
        refine lv_iconst (v := 1) hx hb d_LW_law_327 (by decide) ?_
        refine lv_iadd hx hb d_LW_law_328 ?_
        by_cases b41 : oob (x4 + (1 : Int32)) L
        · rw [if_pos b41] at hf; exact absurd hf.symm hs
        rw [if_neg b41] at hf
        refine va_sld hx hb hX hbl hbA hS b41 d_LW_law_329 ?_
        refine lv_aload_n hx hb d_LW_law_330 rfl (lv_at hl 3 rfl) ?_
        refine va_calli (vx_runSW (As := [.ref (ad 0), .int (xs (x4 + (1 : Int32)).toNatClampNeg), .ref (ad 38)]) (rest := []) ⟨hx, hb, hml, hown, ht⟩ (c_LW_step l hlt D cA ad hI H.size (xs (x4 + (1 : Int32)).toNatClampNeg) S (fun hn => hs (by rw [hn] at hf; exact hf.symm))) (vx_cwSW 3 ht (good_G (gS mM_LW_84 mS_LW_step mN_LW mk_LW_step)) rfl rfl rfl (by decide +kernel) ⟨Nat.le_of_ble_eq_true rfl, Nat.le_of_ble_eq_true rfl⟩) ⟨fun a U g mk q => ⟨q.1, q.2.1, q.2.2.1, va_K.moved (u := U) (U := U.calling g mk a) (Vm.Alike.refl U.vm) q.2.2.2.1, ZX.call q.2.2.2.2⟩, fun U hU hW => ⟨rfl, by rw [hU], by rw [hU]; exact hP, va_K.moved hW.alike hK, hZ.to hS (hAS _ hS.1) hU hW⟩⟩ rfl rfl hl.1 rfl (lv_room (Nat.le_of_ble_eq_true rfl)) d_LW_law_331 ⟨by show _ ≤ 601024; omega, by show _ ≤ 7293000; omega⟩) hS (fun q _ h => hAS _ hS.1 q h) (fun q h => hAS _ hS.1 q h) (fun r17 u17 t H locs ht9 hvm hw hB hz1 hk1 hS => ?_)
        obtain ⟨hP, hK9⟩ := hB
        rw [ht9] at hP
        rw [hw, Option.bind_some] at hf
        dsimp only at hf
        refine lv_istore (lv' := [(5, .int r17), (0, .ref b), (1, .ref (ad 0)), (2, .ref (ad 33)), (3, .ref (ad 38)), (4, .int x4)]) hx hb d_LW_law_334 hl (by decide) rfl (fun ls hl => ?_)
        refine lv_aload_n hx hb d_LW_law_336 rfl (lv_at hl 3 rfl) ?_
        refine lv_aload_n hx hb d_LW_law_337 rfl (lv_at hl 1 rfl) ?_
        refine lv_iload hx hb d_LW_law_338 (lv_at hl 5 rfl) ?_
        refine lv_iconst (v := 1) hx hb d_LW_law_340 (by decide) ?_
        refine lv_iadd hx hb d_LW_law_341 ?_
        refine va_sld hx hb hX hbl hbA hS b41 d_LW_law_342 ?_
        refine va_calli (va_runV (As := [.int (xs (x4 + (1 : Int32)).toNatClampNeg)]) (rest := []) ⟨hx, hb, hml, hown, ht⟩ (c_RM_step l D cA ad hI H.size (xs (x4 + (1 : Int32)).toNatClampNeg) u17 (fun hn => hs (by rw [hn] at hf; exact hf.symm))) (cwV 1 ht (good_G (gV mM_LW_87 mI_RM_step mV_RM_step mN_RM mk_RM_step)) rfl rfl rfl (by decide +kernel) ⟨Nat.le_of_ble_eq_true rfl, Nat.le_of_ble_eq_true rfl⟩) ⟨fun a U g mk q => ⟨q.1, q.2.1, q.2.2.1, va_K.moved (u := U) (U := U.calling g mk a) (Vm.Alike.refl U.vm) q.2.2.2⟩, va_recv hK hP (ci := 5) (q0 := 33) rfl Xa_33, fun U hU hW => ⟨rfl, by rw [hU], by rw [hU]; exact hP, va_K.moved hW.alike hK⟩⟩ rfl rfl hl.1 rfl (lv_room (Nat.le_of_ble_eq_true rfl)) d_LW_law_343 ⟨by show _ ≤ 601024; omega, by show _ ≤ 7293000; omega⟩) hS (fun q _ h => hAS _ hS.1 q h) (fun q h => hAS _ hS.1 q h) (fun r18 u18 t H locs ht9 hvm hw hB hz1 hk1 hS => ?_)
        obtain ⟨hP, hK9⟩ := hB
        rw [ht9] at hP
        rw [hw, Option.bind_some] at hf
        dsimp only at hf
        refine lv_istore (lv' := [(6, .int r18), (5, .int r17), (0, .ref b), (1, .ref (ad 0)), (2, .ref (ad 33)), (3, .ref (ad 38)), (4, .int x4)]) hx hb d_LW_law_346 hl (by decide) rfl (fun ls hl => ?_)
        refine lv_aload_n hx hb d_LW_law_348 rfl (lv_at hl 4 rfl) ?_
        refine va_calli (va_runV (As := []) (rest := []) ⟨hx, hb, hml, hown, ht⟩ (c_RM_thrown l D cA ad hI H.size u18 (fun hn => hs (by rw [hn] at hf; exact hf.symm))) (cwV 0 ht (good_G (gV mM_LW_74 mI_RM_thrown mV_RM_thrown mN_RM mk_RM_thrown)) rfl rfl rfl (by decide +kernel) ⟨Nat.le_of_ble_eq_true rfl, Nat.le_of_ble_eq_true rfl⟩) ⟨fun a U g mk q => ⟨q.1, q.2.1, q.2.2.1, va_K.moved (u := U) (U := U.calling g mk a) (Vm.Alike.refl U.vm) q.2.2.2⟩, va_recv hK hP (ci := 5) (q0 := 33) rfl Xa_33, fun U hU hW => ⟨rfl, by rw [hU], by rw [hU]; exact hP, va_K.moved hW.alike hK⟩⟩ rfl rfl hl.1 rfl (lv_room (Nat.le_of_ble_eq_true rfl)) d_LW_law_349 ⟨by show _ ≤ 601024; omega, by show _ ≤ 7293000; omega⟩) hS (fun q _ h => hAS _ hS.1 q h) (fun q h => hAS _ hS.1 q h) (fun r19 _ t H locs ht9 hvm hw hB hz1 hk1 hS => ?_)
        obtain ⟨hP, hK9⟩ := hB
        rw [ht9] at hP
        rw [hw, Option.bind_some] at hf
        refine lv_iload hx hb d_LW_law_352 (lv_at hl 1 rfl) ?_
        refine lv_icmp_eq (tgt := 359) hx hb d_LW_law_354 (by decide) (fun c42 => ?_) (fun c42 => ?_)
        · rw [if_pos c42] at hf
          refine lv_iload hx hb d_LW_law_359 (lv_at hl 1 rfl) ?_
          refine lv_if_ne (tgt := 376) hx hb d_LW_law_361 (by decide) (fun c43 => ?_) (fun c43 => ?_)
          · rw [if_neg c43] at hf
            refine lv_goto (tgt := 1006) hx hb d_LW_law_376 (by decide) ?_
            refine lv_iinc (v := x4 + 4) (lv' := [(4, .int (x4 + 4)), (6, .int r18), (5, .int r17), (0, .ref b), (1, .ref (ad 0)), (2, .ref (ad 33)), (3, .ref (ad 38))]) hx hb d_LW_law_1006 hl (k := 6) rfl rfl (by decide) rfl (fun ls hl => ?_)
            refine lv_goto (tgt := 43) hx hb d_LW_law_1009 (by decide) ?_
            refine W.widen (k := cb + 3 * (k + 1)) (n := sb + 18 * (k + 1)) (by omega) (by omega) ?_
            exact ih (k + 1) (x4 + 4) u18 _ _ _ (by omega) hP hS (lv_sub hl [3, 4, 5, 6, 0] rfl) (hf.trans h1)
          · rw [if_pos c43] at hf
            refine lv_aload_n hx hb d_LW_law_364 rfl (lv_at hl 5 rfl) ?_
            refine lv_iconst (v := 0) hx hb d_LW_law_365 (by decide) ?_
            by_cases b44 : oob (0 : Int32) 1
            · rw [if_pos b44] at hf; exact absurd hf.symm hs
            rw [if_neg b44] at hf
            refine va_lald (f := u18.2 38) hx hb hK hP 38 1 Xa_38 rfl b44 d_LW_law_366 ?_
            refine lv_iload hx hb d_LW_law_367 (lv_at hl 0 rfl) ?_
            refine lv_i2l hx hb d_LW_law_369 rfl ?_
            refine W.lcmp hx hb d_LW_law_370 ?_
            refine lv_if_eq (tgt := 376) hx hb d_LW_law_371 (by decide) (fun c45 => ?_) (fun c45 => ?_)
            · rw [if_pos c45] at hf
              refine lv_goto (tgt := 1006) hx hb d_LW_law_376 (by decide) ?_
              refine lv_iinc (v := x4 + 4) (lv' := [(4, .int (x4 + 4)), (6, .int r18), (5, .int r17), (0, .ref b), (1, .ref (ad 0)), (2, .ref (ad 33)), (3, .ref (ad 38))]) hx hb d_LW_law_1006 hl (k := 6) rfl rfl (by decide) rfl (fun ls hl => ?_)
              refine lv_goto (tgt := 43) hx hb d_LW_law_1009 (by decide) ?_
              refine W.widen (k := cb + 3 * (k + 1)) (n := sb + 18 * (k + 1)) (by omega) (by omega) ?_
              exact ih (k + 1) (x4 + 4) u18 _ _ _ (by omega) hP hS (lv_sub hl [3, 4, 5, 6, 0] rfl) (hf.trans h1)
            · rw [if_neg c45] at hf
              refine lv_iconst (v := 0) hx hb d_LW_law_374 (by decide) ?_
              exact absurd (hf.trans h1) (by decide)
        · rw [if_neg c42] at hf
          refine lv_iconst (v := 0) hx hb d_LW_law_357 (by decide) ?_
          exact absurd (hf.trans h1) (by decide)
      rw [if_neg s3] at hf
      by_cases s4 : ((xs x4.toNatClampNeg) &&& (15 : Int32)) = 4
      · rw [if_pos s4] at hf
        refine lv_tableIn (off := 320) (tgt := 379) hx hb d_LW_law_59 (by rw [s4]; decide) (by rw [s4]; decide) (by rw [s4]; decide) (by decide) ?_
        skip
        refine lv_aload_n hx hb d_LW_law_379 rfl (lv_at hl 1 rfl) ?_
        refine lv_aload_n hx hb d_LW_law_380 rfl (lv_at hl 0 rfl) ?_
        refine lv_iload hx hb d_LW_law_381 (lv_at hl 4 rfl) ?_
        refine lv_iconst (v := 1) hx hb d_LW_law_383 (by decide) ?_
        refine lv_iadd hx hb d_LW_law_384 ?_
        by_cases b46 : oob (x4 + (1 : Int32)) L
        · rw [if_pos b46] at hf; exact absurd hf.symm hs
        rw [if_neg b46] at hf
        refine va_sld hx hb hX hbl hbA hS b46 d_LW_law_385 ?_
        refine lv_aload_n hx hb d_LW_law_386 rfl (lv_at hl 0 rfl) ?_
        refine lv_iload hx hb d_LW_law_387 (lv_at hl 4 rfl) ?_
        refine lv_iconst (v := 2) hx hb d_LW_law_389 (by decide) ?_
        refine lv_iadd hx hb d_LW_law_390 ?_
        by_cases b47 : oob (x4 + (2 : Int32)) L
        · rw [if_pos b47] at hf; exact absurd hf.symm hs
        rw [if_neg b47] at hf
        refine va_sld hx hb hX hbl hbA hS b47 d_LW_law_391 ?_
        refine lv_aload_n hx hb d_LW_law_392 rfl (lv_at hl 0 rfl) ?_
        refine lv_iload hx hb d_LW_law_393 (lv_at hl 4 rfl) ?_
        refine lv_iconst (v := 3) hx hb d_LW_law_395 (by decide) ?_
        refine lv_iadd hx hb d_LW_law_396 ?_
        by_cases b48 : oob (x4 + (3 : Int32)) L
        · rw [if_pos b48] at hf; exact absurd hf.symm hs
        rw [if_neg b48] at hf
        refine va_sld hx hb hX hbl hbA hS b48 d_LW_law_397 ?_
        refine lv_if_eq (tgt := 405) hx hb d_LW_law_398 (by decide) (fun c49 => ?_) (fun c49 => ?_)
        · rw [if_pos c49] at hf
          refine lv_iconst (v := 0) hx hb d_LW_law_405 (by decide) ?_
          refine lv_aload_n hx hb d_LW_law_406 rfl (lv_at hl 3 rfl) ?_
          refine va_calli (vx_runSW (As := [.ref (ad 0), .int (xs (x4 + (1 : Int32)).toNatClampNeg), .int (xs (x4 + (2 : Int32)).toNatClampNeg), .int (0 : Int32), .ref (ad 38)]) (rest := []) ⟨hx, hb, hml, hown, ht⟩ (c_LW_bar l hlt D cA ad hI H.size (xs (x4 + (1 : Int32)).toNatClampNeg) (xs (x4 + (2 : Int32)).toNatClampNeg) (0 : Int32) S (fun hn => hs (by rw [hn] at hf; exact hf.symm))) (vx_cwSW 5 ht (good_G (gS mM_LW_88 mS_LW_bar mN_LW mk_LW_bar)) rfl rfl rfl (by decide +kernel) ⟨Nat.le_of_ble_eq_true rfl, Nat.le_of_ble_eq_true rfl⟩) ⟨fun a U g mk q => ⟨q.1, q.2.1, q.2.2.1, va_K.moved (u := U) (U := U.calling g mk a) (Vm.Alike.refl U.vm) q.2.2.2.1, ZX.call q.2.2.2.2⟩, fun U hU hW => ⟨rfl, by rw [hU], by rw [hU]; exact hP, va_K.moved hW.alike hK, hZ.to hS (hAS _ hS.1) hU hW⟩⟩ rfl rfl hl.1 rfl (lv_room (Nat.le_of_ble_eq_true rfl)) d_LW_law_407 ⟨by show _ ≤ 601024; omega, by show _ ≤ 7293000; omega⟩) hS (fun q _ h => hAS _ hS.1 q h) (fun q h => hAS _ hS.1 q h) (fun r20 u20 t H locs ht9 hvm hw hB hz1 hk1 hS => ?_)
          obtain ⟨hP, hK9⟩ := hB
          rw [ht9] at hP
          rw [hw, Option.bind_some] at hf
          dsimp only at hf
          refine lv_istore (lv' := [(5, .int r20), (0, .ref b), (1, .ref (ad 0)), (2, .ref (ad 33)), (3, .ref (ad 38)), (4, .int x4)]) hx hb d_LW_law_410 hl (by decide) rfl (fun ls hl => ?_)
          refine lv_aload_n hx hb d_LW_law_412 rfl (lv_at hl 3 rfl) ?_
          refine lv_aload_n hx hb d_LW_law_413 rfl (lv_at hl 1 rfl) ?_
          refine lv_iload hx hb d_LW_law_414 (lv_at hl 5 rfl) ?_
          refine lv_iconst (v := 1) hx hb d_LW_law_416 (by decide) ?_
          refine lv_iadd hx hb d_LW_law_417 ?_
          refine va_sld hx hb hX hbl hbA hS b46 d_LW_law_418 ?_
          refine lv_aload_n hx hb d_LW_law_419 rfl (lv_at hl 1 rfl) ?_
          refine lv_iload hx hb d_LW_law_420 (lv_at hl 5 rfl) ?_
          refine lv_iconst (v := 2) hx hb d_LW_law_422 (by decide) ?_
          refine lv_iadd hx hb d_LW_law_423 ?_
          refine va_sld hx hb hX hbl hbA hS b47 d_LW_law_424 ?_
          refine lv_aload_n hx hb d_LW_law_425 rfl (lv_at hl 1 rfl) ?_
          refine lv_iload hx hb d_LW_law_426 (lv_at hl 5 rfl) ?_
          refine lv_iconst (v := 3) hx hb d_LW_law_428 (by decide) ?_
          refine lv_iadd hx hb d_LW_law_429 ?_
          refine va_sld hx hb hX hbl hbA hS b48 d_LW_law_430 ?_
          refine lv_if_eq (tgt := 438) hx hb d_LW_law_431 (by decide) (fun c50 => ?_) (fun c50 => ?_)
          · rw [if_pos c50] at hf
            refine lv_iconst (v := 0) hx hb d_LW_law_438 (by decide) ?_
            refine va_calli (va_runV (As := [.int (xs (x4 + (1 : Int32)).toNatClampNeg), .int (xs (x4 + (2 : Int32)).toNatClampNeg), .int (0 : Int32)]) (rest := []) ⟨hx, hb, hml, hown, ht⟩ (c_RM_bar l D cA ad hI H.size (xs (x4 + (1 : Int32)).toNatClampNeg) (xs (x4 + (2 : Int32)).toNatClampNeg) (0 : Int32) u20 (fun hn => hs (by rw [hn] at hf; exact hf.symm))) (cwV 3 ht (good_G (gV mM_LW_90 mI_RM_bar mV_RM_bar mN_RM mk_RM_bar)) rfl rfl rfl (by decide +kernel) ⟨Nat.le_of_ble_eq_true rfl, Nat.le_of_ble_eq_true rfl⟩) ⟨fun a U g mk q => ⟨q.1, q.2.1, q.2.2.1, va_K.moved (u := U) (U := U.calling g mk a) (Vm.Alike.refl U.vm) q.2.2.2⟩, va_recv hK hP (ci := 5) (q0 := 33) rfl Xa_33, fun U hU hW => ⟨rfl, by rw [hU], by rw [hU]; exact hP, va_K.moved hW.alike hK⟩⟩ rfl rfl hl.1 rfl (lv_room (Nat.le_of_ble_eq_true rfl)) d_LW_law_439 ⟨by show _ ≤ 601024; omega, by show _ ≤ 7293000; omega⟩) hS (fun q _ h => hAS _ hS.1 q h) (fun q h => hAS _ hS.1 q h) (fun r21 u21 t H locs ht9 hvm hw hB hz1 hk1 hS => ?_)
            obtain ⟨hP, hK9⟩ := hB
            rw [ht9] at hP
            obtain ⟨hw, hz21⟩ := hw
            rw [hw, Option.bind_some] at hf
            dsimp only at hf
            refine lv_istore (lv' := [(6, .int r21), (5, .int r20), (0, .ref b), (1, .ref (ad 0)), (2, .ref (ad 33)), (3, .ref (ad 38)), (4, .int x4)]) hx hb d_LW_law_442 hl (by decide) rfl (fun ls hl => ?_)
            refine lv_aload_n hx hb d_LW_law_444 rfl (lv_at hl 4 rfl) ?_
            refine va_calli (va_runV (As := []) (rest := []) ⟨hx, hb, hml, hown, ht⟩ (c_RM_thrown l D cA ad hI H.size u21 (fun hn => hs (by rw [hn] at hf; exact hf.symm))) (cwV 0 ht (good_G (gV mM_LW_74 mI_RM_thrown mV_RM_thrown mN_RM mk_RM_thrown)) rfl rfl rfl (by decide +kernel) ⟨Nat.le_of_ble_eq_true rfl, Nat.le_of_ble_eq_true rfl⟩) ⟨fun a U g mk q => ⟨q.1, q.2.1, q.2.2.1, va_K.moved (u := U) (U := U.calling g mk a) (Vm.Alike.refl U.vm) q.2.2.2⟩, va_recv hK hP (ci := 5) (q0 := 33) rfl Xa_33, fun U hU hW => ⟨rfl, by rw [hU], by rw [hU]; exact hP, va_K.moved hW.alike hK⟩⟩ rfl rfl hl.1 rfl (lv_room (Nat.le_of_ble_eq_true rfl)) d_LW_law_445 ⟨by show _ ≤ 601024; omega, by show _ ≤ 7293000; omega⟩) hS (fun q _ h => hAS _ hS.1 q h) (fun q h => hAS _ hS.1 q h) (fun r22 _ t H locs ht9 hvm hw hB hz1 hk1 hS => ?_)
            obtain ⟨hP, hK9⟩ := hB
            rw [ht9] at hP
            rw [hw, Option.bind_some] at hf
            refine lv_iload hx hb d_LW_law_448 (lv_at hl 1 rfl) ?_
            refine lv_icmp_eq (tgt := 455) hx hb d_LW_law_450 (by decide) (fun c51 => ?_) (fun c51 => ?_)
            · rw [if_pos c51] at hf
              refine lv_iload hx hb d_LW_law_455 (lv_at hl 1 rfl) ?_
              refine lv_if_ne (tgt := 479) hx hb d_LW_law_457 (by decide) (fun c52 => ?_) (fun c52 => ?_)
              · rw [if_neg c52] at hf
                refine lv_goto (tgt := 1006) hx hb d_LW_law_479 (by decide) ?_
                refine lv_iinc (v := x4 + 4) (lv' := [(4, .int (x4 + 4)), (6, .int r21), (5, .int r20), (0, .ref b), (1, .ref (ad 0)), (2, .ref (ad 33)), (3, .ref (ad 38))]) hx hb d_LW_law_1006 hl (k := 6) rfl rfl (by decide) rfl (fun ls hl => ?_)
                refine lv_goto (tgt := 43) hx hb d_LW_law_1009 (by decide) ?_
                refine W.widen (k := cb + 3 * (k + 1)) (n := sb + 18 * (k + 1)) (by omega) (by omega) ?_
                exact ih (k + 1) (x4 + 4) u21 _ _ _ (by omega) hP hS (lv_sub hl [3, 4, 5, 6, 0] rfl) (hf.trans h1)
              · rw [if_pos c52] at hf
                refine lv_aload_n hx hb d_LW_law_460 rfl (lv_at hl 5 rfl) ?_
                refine lv_iconst (v := 0) hx hb d_LW_law_461 (by decide) ?_
                by_cases b53 : oob (0 : Int32) 1
                · rw [if_pos b53] at hf; exact absurd hf.symm hs
                rw [if_neg b53] at hf
                refine va_lald (f := u21.2 38) hx hb hK hP 38 1 Xa_38 rfl b53 d_LW_law_462 ?_
                refine lv_iload hx hb d_LW_law_463 (lv_at hl 0 rfl) ?_
                refine lv_if_eq (tgt := 472) hx hb d_LW_law_465 (by decide) (fun c54 => ?_) (fun c54 => ?_)
                · rw [if_pos c54] at hf
                  refine lv_lconst (v := 0) hx hb d_LW_law_472 (by decide) ?_
                  refine W.lcmp hx hb d_LW_law_473 ?_
                  refine lv_if_eq (tgt := 479) hx hb d_LW_law_474 (by decide) (fun c55 => ?_) (fun c55 => ?_)
                  · rw [if_pos c55] at hf
                    refine lv_goto (tgt := 1006) hx hb d_LW_law_479 (by decide) ?_
                    refine lv_iinc (v := x4 + 4) (lv' := [(4, .int (x4 + 4)), (6, .int r21), (5, .int r20), (0, .ref b), (1, .ref (ad 0)), (2, .ref (ad 33)), (3, .ref (ad 38))]) hx hb d_LW_law_1006 hl (k := 6) rfl rfl (by decide) rfl (fun ls hl => ?_)
                    refine lv_goto (tgt := 43) hx hb d_LW_law_1009 (by decide) ?_
                    refine W.widen (k := cb + 3 * (k + 1)) (n := sb + 18 * (k + 1)) (by omega) (by omega) ?_
                    exact ih (k + 1) (x4 + 4) u21 _ _ _ (by omega) hP hS (lv_sub hl [3, 4, 5, 6, 0] rfl) (hf.trans h1)
                  · rw [if_neg c55] at hf
                    refine lv_iconst (v := 0) hx hb d_LW_law_477 (by decide) ?_
                    exact absurd (hf.trans h1) (by decide)
                · rw [if_neg c54] at hf
                  refine lv_lconst (v := 1) hx hb d_LW_law_468 (by decide) ?_
                  refine lv_goto (tgt := 473) hx hb d_LW_law_469 (by decide) ?_
                  refine W.lcmp hx hb d_LW_law_473 ?_
                  refine lv_if_eq (tgt := 479) hx hb d_LW_law_474 (by decide) (fun c56 => ?_) (fun c56 => ?_)
                  · rw [if_pos c56] at hf
                    refine lv_goto (tgt := 1006) hx hb d_LW_law_479 (by decide) ?_
                    refine lv_iinc (v := x4 + 4) (lv' := [(4, .int (x4 + 4)), (6, .int r21), (5, .int r20), (0, .ref b), (1, .ref (ad 0)), (2, .ref (ad 33)), (3, .ref (ad 38))]) hx hb d_LW_law_1006 hl (k := 6) rfl rfl (by decide) rfl (fun ls hl => ?_)
                    refine lv_goto (tgt := 43) hx hb d_LW_law_1009 (by decide) ?_
                    refine W.widen (k := cb + 3 * (k + 1)) (n := sb + 18 * (k + 1)) (by omega) (by omega) ?_
                    exact ih (k + 1) (x4 + 4) u21 _ _ _ (by omega) hP hS (lv_sub hl [3, 4, 5, 6, 0] rfl) (hf.trans h1)
                  · rw [if_neg c56] at hf
                    refine lv_iconst (v := 0) hx hb d_LW_law_477 (by decide) ?_
                    exact absurd (hf.trans h1) (by decide)
            · rw [if_neg c51] at hf
              refine lv_iconst (v := 0) hx hb d_LW_law_453 (by decide) ?_
              exact absurd (hf.trans h1) (by decide)
          · rw [if_neg c50] at hf
            refine lv_iconst (v := 1) hx hb d_LW_law_434 (by decide) ?_
            refine lv_goto (tgt := 439) hx hb d_LW_law_435 (by decide) ?_
            refine va_calli (va_runV (As := [.int (xs (x4 + (1 : Int32)).toNatClampNeg), .int (xs (x4 + (2 : Int32)).toNatClampNeg), .int (1 : Int32)]) (rest := []) ⟨hx, hb, hml, hown, ht⟩ (c_RM_bar l D cA ad hI H.size (xs (x4 + (1 : Int32)).toNatClampNeg) (xs (x4 + (2 : Int32)).toNatClampNeg) (1 : Int32) u20 (fun hn => hs (by rw [hn] at hf; exact hf.symm))) (cwV 3 ht (good_G (gV mM_LW_90 mI_RM_bar mV_RM_bar mN_RM mk_RM_bar)) rfl rfl rfl (by decide +kernel) ⟨Nat.le_of_ble_eq_true rfl, Nat.le_of_ble_eq_true rfl⟩) ⟨fun a U g mk q => ⟨q.1, q.2.1, q.2.2.1, va_K.moved (u := U) (U := U.calling g mk a) (Vm.Alike.refl U.vm) q.2.2.2⟩, va_recv hK hP (ci := 5) (q0 := 33) rfl Xa_33, fun U hU hW => ⟨rfl, by rw [hU], by rw [hU]; exact hP, va_K.moved hW.alike hK⟩⟩ rfl rfl hl.1 rfl (lv_room (Nat.le_of_ble_eq_true rfl)) d_LW_law_439 ⟨by show _ ≤ 601024; omega, by show _ ≤ 7293000; omega⟩) hS (fun q _ h => hAS _ hS.1 q h) (fun q h => hAS _ hS.1 q h) (fun r23 u23 t H locs ht9 hvm hw hB hz1 hk1 hS => ?_)
            obtain ⟨hP, hK9⟩ := hB
            rw [ht9] at hP
            obtain ⟨hw, hz23⟩ := hw
            rw [hw, Option.bind_some] at hf
            dsimp only at hf
            refine lv_istore (lv' := [(6, .int r23), (5, .int r20), (0, .ref b), (1, .ref (ad 0)), (2, .ref (ad 33)), (3, .ref (ad 38)), (4, .int x4)]) hx hb d_LW_law_442 hl (by decide) rfl (fun ls hl => ?_)
            refine lv_aload_n hx hb d_LW_law_444 rfl (lv_at hl 4 rfl) ?_
            refine va_calli (va_runV (As := []) (rest := []) ⟨hx, hb, hml, hown, ht⟩ (c_RM_thrown l D cA ad hI H.size u23 (fun hn => hs (by rw [hn] at hf; exact hf.symm))) (cwV 0 ht (good_G (gV mM_LW_74 mI_RM_thrown mV_RM_thrown mN_RM mk_RM_thrown)) rfl rfl rfl (by decide +kernel) ⟨Nat.le_of_ble_eq_true rfl, Nat.le_of_ble_eq_true rfl⟩) ⟨fun a U g mk q => ⟨q.1, q.2.1, q.2.2.1, va_K.moved (u := U) (U := U.calling g mk a) (Vm.Alike.refl U.vm) q.2.2.2⟩, va_recv hK hP (ci := 5) (q0 := 33) rfl Xa_33, fun U hU hW => ⟨rfl, by rw [hU], by rw [hU]; exact hP, va_K.moved hW.alike hK⟩⟩ rfl rfl hl.1 rfl (lv_room (Nat.le_of_ble_eq_true rfl)) d_LW_law_445 ⟨by show _ ≤ 601024; omega, by show _ ≤ 7293000; omega⟩) hS (fun q _ h => hAS _ hS.1 q h) (fun q h => hAS _ hS.1 q h) (fun r24 _ t H locs ht9 hvm hw hB hz1 hk1 hS => ?_)
            obtain ⟨hP, hK9⟩ := hB
            rw [ht9] at hP
            rw [hw, Option.bind_some] at hf
            refine lv_iload hx hb d_LW_law_448 (lv_at hl 1 rfl) ?_
            refine lv_icmp_eq (tgt := 455) hx hb d_LW_law_450 (by decide) (fun c57 => ?_) (fun c57 => ?_)
            · rw [if_pos c57] at hf
              refine lv_iload hx hb d_LW_law_455 (lv_at hl 1 rfl) ?_
              refine lv_if_ne (tgt := 479) hx hb d_LW_law_457 (by decide) (fun c58 => ?_) (fun c58 => ?_)
              · rw [if_neg c58] at hf
                refine lv_goto (tgt := 1006) hx hb d_LW_law_479 (by decide) ?_
                refine lv_iinc (v := x4 + 4) (lv' := [(4, .int (x4 + 4)), (6, .int r23), (5, .int r20), (0, .ref b), (1, .ref (ad 0)), (2, .ref (ad 33)), (3, .ref (ad 38))]) hx hb d_LW_law_1006 hl (k := 6) rfl rfl (by decide) rfl (fun ls hl => ?_)
                refine lv_goto (tgt := 43) hx hb d_LW_law_1009 (by decide) ?_
                refine W.widen (k := cb + 3 * (k + 1)) (n := sb + 18 * (k + 1)) (by omega) (by omega) ?_
                exact ih (k + 1) (x4 + 4) u23 _ _ _ (by omega) hP hS (lv_sub hl [3, 4, 5, 6, 0] rfl) (hf.trans h1)
              · rw [if_pos c58] at hf
                refine lv_aload_n hx hb d_LW_law_460 rfl (lv_at hl 5 rfl) ?_
                refine lv_iconst (v := 0) hx hb d_LW_law_461 (by decide) ?_
                by_cases b59 : oob (0 : Int32) 1
                · rw [if_pos b59] at hf; exact absurd hf.symm hs
                rw [if_neg b59] at hf
                refine va_lald (f := u23.2 38) hx hb hK hP 38 1 Xa_38 rfl b59 d_LW_law_462 ?_
                refine lv_iload hx hb d_LW_law_463 (lv_at hl 0 rfl) ?_
                refine lv_if_eq (tgt := 472) hx hb d_LW_law_465 (by decide) (fun c60 => ?_) (fun c60 => ?_)
                · rw [if_pos c60] at hf
                  refine lv_lconst (v := 0) hx hb d_LW_law_472 (by decide) ?_
                  refine W.lcmp hx hb d_LW_law_473 ?_
                  refine lv_if_eq (tgt := 479) hx hb d_LW_law_474 (by decide) (fun c61 => ?_) (fun c61 => ?_)
                  · rw [if_pos c61] at hf
                    refine lv_goto (tgt := 1006) hx hb d_LW_law_479 (by decide) ?_
                    refine lv_iinc (v := x4 + 4) (lv' := [(4, .int (x4 + 4)), (6, .int r23), (5, .int r20), (0, .ref b), (1, .ref (ad 0)), (2, .ref (ad 33)), (3, .ref (ad 38))]) hx hb d_LW_law_1006 hl (k := 6) rfl rfl (by decide) rfl (fun ls hl => ?_)
                    refine lv_goto (tgt := 43) hx hb d_LW_law_1009 (by decide) ?_
                    refine W.widen (k := cb + 3 * (k + 1)) (n := sb + 18 * (k + 1)) (by omega) (by omega) ?_
                    exact ih (k + 1) (x4 + 4) u23 _ _ _ (by omega) hP hS (lv_sub hl [3, 4, 5, 6, 0] rfl) (hf.trans h1)
                  · rw [if_neg c61] at hf
                    refine lv_iconst (v := 0) hx hb d_LW_law_477 (by decide) ?_
                    exact absurd (hf.trans h1) (by decide)
                · rw [if_neg c60] at hf
                  refine lv_lconst (v := 1) hx hb d_LW_law_468 (by decide) ?_
                  refine lv_goto (tgt := 473) hx hb d_LW_law_469 (by decide) ?_
                  refine W.lcmp hx hb d_LW_law_473 ?_
                  refine lv_if_eq (tgt := 479) hx hb d_LW_law_474 (by decide) (fun c62 => ?_) (fun c62 => ?_)
                  · rw [if_pos c62] at hf
                    refine lv_goto (tgt := 1006) hx hb d_LW_law_479 (by decide) ?_
                    refine lv_iinc (v := x4 + 4) (lv' := [(4, .int (x4 + 4)), (6, .int r23), (5, .int r20), (0, .ref b), (1, .ref (ad 0)), (2, .ref (ad 33)), (3, .ref (ad 38))]) hx hb d_LW_law_1006 hl (k := 6) rfl rfl (by decide) rfl (fun ls hl => ?_)
                    refine lv_goto (tgt := 43) hx hb d_LW_law_1009 (by decide) ?_
                    refine W.widen (k := cb + 3 * (k + 1)) (n := sb + 18 * (k + 1)) (by omega) (by omega) ?_
                    exact ih (k + 1) (x4 + 4) u23 _ _ _ (by omega) hP hS (lv_sub hl [3, 4, 5, 6, 0] rfl) (hf.trans h1)
                  · rw [if_neg c62] at hf
                    refine lv_iconst (v := 0) hx hb d_LW_law_477 (by decide) ?_
                    exact absurd (hf.trans h1) (by decide)
            · rw [if_neg c57] at hf
              refine lv_iconst (v := 0) hx hb d_LW_law_453 (by decide) ?_
              exact absurd (hf.trans h1) (by decide)
        · rw [if_neg c49] at hf
          refine lv_iconst (v := 1) hx hb d_LW_law_401 (by decide) ?_
          refine lv_goto (tgt := 406) hx hb d_LW_law_402 (by decide) ?_
          refine lv_aload_n hx hb d_LW_law_406 rfl (lv_at hl 3 rfl) ?_
          refine va_calli (vx_runSW (As := [.ref (ad 0), .int (xs (x4 + (1 : Int32)).toNatClampNeg), .int (xs (x4 + (2 : Int32)).toNatClampNeg), .int (1 : Int32), .ref (ad 38)]) (rest := []) ⟨hx, hb, hml, hown, ht⟩ (c_LW_bar l hlt D cA ad hI H.size (xs (x4 + (1 : Int32)).toNatClampNeg) (xs (x4 + (2 : Int32)).toNatClampNeg) (1 : Int32) S (fun hn => hs (by rw [hn] at hf; exact hf.symm))) (vx_cwSW 5 ht (good_G (gS mM_LW_88 mS_LW_bar mN_LW mk_LW_bar)) rfl rfl rfl (by decide +kernel) ⟨Nat.le_of_ble_eq_true rfl, Nat.le_of_ble_eq_true rfl⟩) ⟨fun a U g mk q => ⟨q.1, q.2.1, q.2.2.1, va_K.moved (u := U) (U := U.calling g mk a) (Vm.Alike.refl U.vm) q.2.2.2.1, ZX.call q.2.2.2.2⟩, fun U hU hW => ⟨rfl, by rw [hU], by rw [hU]; exact hP, va_K.moved hW.alike hK, hZ.to hS (hAS _ hS.1) hU hW⟩⟩ rfl rfl hl.1 rfl (lv_room (Nat.le_of_ble_eq_true rfl)) d_LW_law_407 ⟨by show _ ≤ 601024; omega, by show _ ≤ 7293000; omega⟩) hS (fun q _ h => hAS _ hS.1 q h) (fun q h => hAS _ hS.1 q h) (fun r25 u25 t H locs ht9 hvm hw hB hz1 hk1 hS => ?_)
          obtain ⟨hP, hK9⟩ := hB
          rw [ht9] at hP
          rw [hw, Option.bind_some] at hf
          dsimp only at hf
          refine lv_istore (lv' := [(5, .int r25), (0, .ref b), (1, .ref (ad 0)), (2, .ref (ad 33)), (3, .ref (ad 38)), (4, .int x4)]) hx hb d_LW_law_410 hl (by decide) rfl (fun ls hl => ?_)
          refine lv_aload_n hx hb d_LW_law_412 rfl (lv_at hl 3 rfl) ?_
          refine lv_aload_n hx hb d_LW_law_413 rfl (lv_at hl 1 rfl) ?_
          refine lv_iload hx hb d_LW_law_414 (lv_at hl 5 rfl) ?_
          refine lv_iconst (v := 1) hx hb d_LW_law_416 (by decide) ?_
          refine lv_iadd hx hb d_LW_law_417 ?_
          refine va_sld hx hb hX hbl hbA hS b46 d_LW_law_418 ?_
          refine lv_aload_n hx hb d_LW_law_419 rfl (lv_at hl 1 rfl) ?_
          refine lv_iload hx hb d_LW_law_420 (lv_at hl 5 rfl) ?_
          refine lv_iconst (v := 2) hx hb d_LW_law_422 (by decide) ?_
          refine lv_iadd hx hb d_LW_law_423 ?_
          refine va_sld hx hb hX hbl hbA hS b47 d_LW_law_424 ?_
          refine lv_aload_n hx hb d_LW_law_425 rfl (lv_at hl 1 rfl) ?_
          refine lv_iload hx hb d_LW_law_426 (lv_at hl 5 rfl) ?_
          refine lv_iconst (v := 3) hx hb d_LW_law_428 (by decide) ?_
          refine lv_iadd hx hb d_LW_law_429 ?_
          refine va_sld hx hb hX hbl hbA hS b48 d_LW_law_430 ?_
          refine lv_if_eq (tgt := 438) hx hb d_LW_law_431 (by decide) (fun c63 => ?_) (fun c63 => ?_)
          · rw [if_pos c63] at hf
            refine lv_iconst (v := 0) hx hb d_LW_law_438 (by decide) ?_
            refine va_calli (va_runV (As := [.int (xs (x4 + (1 : Int32)).toNatClampNeg), .int (xs (x4 + (2 : Int32)).toNatClampNeg), .int (0 : Int32)]) (rest := []) ⟨hx, hb, hml, hown, ht⟩ (c_RM_bar l D cA ad hI H.size (xs (x4 + (1 : Int32)).toNatClampNeg) (xs (x4 + (2 : Int32)).toNatClampNeg) (0 : Int32) u25 (fun hn => hs (by rw [hn] at hf; exact hf.symm))) (cwV 3 ht (good_G (gV mM_LW_90 mI_RM_bar mV_RM_bar mN_RM mk_RM_bar)) rfl rfl rfl (by decide +kernel) ⟨Nat.le_of_ble_eq_true rfl, Nat.le_of_ble_eq_true rfl⟩) ⟨fun a U g mk q => ⟨q.1, q.2.1, q.2.2.1, va_K.moved (u := U) (U := U.calling g mk a) (Vm.Alike.refl U.vm) q.2.2.2⟩, va_recv hK hP (ci := 5) (q0 := 33) rfl Xa_33, fun U hU hW => ⟨rfl, by rw [hU], by rw [hU]; exact hP, va_K.moved hW.alike hK⟩⟩ rfl rfl hl.1 rfl (lv_room (Nat.le_of_ble_eq_true rfl)) d_LW_law_439 ⟨by show _ ≤ 601024; omega, by show _ ≤ 7293000; omega⟩) hS (fun q _ h => hAS _ hS.1 q h) (fun q h => hAS _ hS.1 q h) (fun r26 u26 t H locs ht9 hvm hw hB hz1 hk1 hS => ?_)
            obtain ⟨hP, hK9⟩ := hB
            rw [ht9] at hP
            obtain ⟨hw, hz26⟩ := hw
            rw [hw, Option.bind_some] at hf
            dsimp only at hf
            refine lv_istore (lv' := [(6, .int r26), (5, .int r25), (0, .ref b), (1, .ref (ad 0)), (2, .ref (ad 33)), (3, .ref (ad 38)), (4, .int x4)]) hx hb d_LW_law_442 hl (by decide) rfl (fun ls hl => ?_)
            refine lv_aload_n hx hb d_LW_law_444 rfl (lv_at hl 4 rfl) ?_
            refine va_calli (va_runV (As := []) (rest := []) ⟨hx, hb, hml, hown, ht⟩ (c_RM_thrown l D cA ad hI H.size u26 (fun hn => hs (by rw [hn] at hf; exact hf.symm))) (cwV 0 ht (good_G (gV mM_LW_74 mI_RM_thrown mV_RM_thrown mN_RM mk_RM_thrown)) rfl rfl rfl (by decide +kernel) ⟨Nat.le_of_ble_eq_true rfl, Nat.le_of_ble_eq_true rfl⟩) ⟨fun a U g mk q => ⟨q.1, q.2.1, q.2.2.1, va_K.moved (u := U) (U := U.calling g mk a) (Vm.Alike.refl U.vm) q.2.2.2⟩, va_recv hK hP (ci := 5) (q0 := 33) rfl Xa_33, fun U hU hW => ⟨rfl, by rw [hU], by rw [hU]; exact hP, va_K.moved hW.alike hK⟩⟩ rfl rfl hl.1 rfl (lv_room (Nat.le_of_ble_eq_true rfl)) d_LW_law_445 ⟨by show _ ≤ 601024; omega, by show _ ≤ 7293000; omega⟩) hS (fun q _ h => hAS _ hS.1 q h) (fun q h => hAS _ hS.1 q h) (fun r27 _ t H locs ht9 hvm hw hB hz1 hk1 hS => ?_)
            obtain ⟨hP, hK9⟩ := hB
            rw [ht9] at hP
            rw [hw, Option.bind_some] at hf
            refine lv_iload hx hb d_LW_law_448 (lv_at hl 1 rfl) ?_
            refine lv_icmp_eq (tgt := 455) hx hb d_LW_law_450 (by decide) (fun c64 => ?_) (fun c64 => ?_)
            · rw [if_pos c64] at hf
              refine lv_iload hx hb d_LW_law_455 (lv_at hl 1 rfl) ?_
              refine lv_if_ne (tgt := 479) hx hb d_LW_law_457 (by decide) (fun c65 => ?_) (fun c65 => ?_)
              · rw [if_neg c65] at hf
                refine lv_goto (tgt := 1006) hx hb d_LW_law_479 (by decide) ?_
                refine lv_iinc (v := x4 + 4) (lv' := [(4, .int (x4 + 4)), (6, .int r26), (5, .int r25), (0, .ref b), (1, .ref (ad 0)), (2, .ref (ad 33)), (3, .ref (ad 38))]) hx hb d_LW_law_1006 hl (k := 6) rfl rfl (by decide) rfl (fun ls hl => ?_)
                refine lv_goto (tgt := 43) hx hb d_LW_law_1009 (by decide) ?_
                refine W.widen (k := cb + 3 * (k + 1)) (n := sb + 18 * (k + 1)) (by omega) (by omega) ?_
                exact ih (k + 1) (x4 + 4) u26 _ _ _ (by omega) hP hS (lv_sub hl [3, 4, 5, 6, 0] rfl) (hf.trans h1)
              · rw [if_pos c65] at hf
                refine lv_aload_n hx hb d_LW_law_460 rfl (lv_at hl 5 rfl) ?_
                refine lv_iconst (v := 0) hx hb d_LW_law_461 (by decide) ?_
                by_cases b66 : oob (0 : Int32) 1
                · rw [if_pos b66] at hf; exact absurd hf.symm hs
                rw [if_neg b66] at hf
                refine va_lald (f := u26.2 38) hx hb hK hP 38 1 Xa_38 rfl b66 d_LW_law_462 ?_
                refine lv_iload hx hb d_LW_law_463 (lv_at hl 0 rfl) ?_
                refine lv_if_eq (tgt := 472) hx hb d_LW_law_465 (by decide) (fun c67 => ?_) (fun c67 => ?_)
                · rw [if_pos c67] at hf
                  refine lv_lconst (v := 0) hx hb d_LW_law_472 (by decide) ?_
                  refine W.lcmp hx hb d_LW_law_473 ?_
                  refine lv_if_eq (tgt := 479) hx hb d_LW_law_474 (by decide) (fun c68 => ?_) (fun c68 => ?_)
                  · rw [if_pos c68] at hf
                    refine lv_goto (tgt := 1006) hx hb d_LW_law_479 (by decide) ?_
                    refine lv_iinc (v := x4 + 4) (lv' := [(4, .int (x4 + 4)), (6, .int r26), (5, .int r25), (0, .ref b), (1, .ref (ad 0)), (2, .ref (ad 33)), (3, .ref (ad 38))]) hx hb d_LW_law_1006 hl (k := 6) rfl rfl (by decide) rfl (fun ls hl => ?_)
                    refine lv_goto (tgt := 43) hx hb d_LW_law_1009 (by decide) ?_
                    refine W.widen (k := cb + 3 * (k + 1)) (n := sb + 18 * (k + 1)) (by omega) (by omega) ?_
                    exact ih (k + 1) (x4 + 4) u26 _ _ _ (by omega) hP hS (lv_sub hl [3, 4, 5, 6, 0] rfl) (hf.trans h1)
                  · rw [if_neg c68] at hf
                    refine lv_iconst (v := 0) hx hb d_LW_law_477 (by decide) ?_
                    exact absurd (hf.trans h1) (by decide)
                · rw [if_neg c67] at hf
                  refine lv_lconst (v := 1) hx hb d_LW_law_468 (by decide) ?_
                  refine lv_goto (tgt := 473) hx hb d_LW_law_469 (by decide) ?_
                  refine W.lcmp hx hb d_LW_law_473 ?_
                  refine lv_if_eq (tgt := 479) hx hb d_LW_law_474 (by decide) (fun c69 => ?_) (fun c69 => ?_)
                  · rw [if_pos c69] at hf
                    refine lv_goto (tgt := 1006) hx hb d_LW_law_479 (by decide) ?_
                    refine lv_iinc (v := x4 + 4) (lv' := [(4, .int (x4 + 4)), (6, .int r26), (5, .int r25), (0, .ref b), (1, .ref (ad 0)), (2, .ref (ad 33)), (3, .ref (ad 38))]) hx hb d_LW_law_1006 hl (k := 6) rfl rfl (by decide) rfl (fun ls hl => ?_)
                    refine lv_goto (tgt := 43) hx hb d_LW_law_1009 (by decide) ?_
                    refine W.widen (k := cb + 3 * (k + 1)) (n := sb + 18 * (k + 1)) (by omega) (by omega) ?_
                    exact ih (k + 1) (x4 + 4) u26 _ _ _ (by omega) hP hS (lv_sub hl [3, 4, 5, 6, 0] rfl) (hf.trans h1)
                  · rw [if_neg c69] at hf
                    refine lv_iconst (v := 0) hx hb d_LW_law_477 (by decide) ?_
                    exact absurd (hf.trans h1) (by decide)
            · rw [if_neg c64] at hf
              refine lv_iconst (v := 0) hx hb d_LW_law_453 (by decide) ?_
              exact absurd (hf.trans h1) (by decide)
          · rw [if_neg c63] at hf
            refine lv_iconst (v := 1) hx hb d_LW_law_434 (by decide) ?_
            refine lv_goto (tgt := 439) hx hb d_LW_law_435 (by decide) ?_
            refine va_calli (va_runV (As := [.int (xs (x4 + (1 : Int32)).toNatClampNeg), .int (xs (x4 + (2 : Int32)).toNatClampNeg), .int (1 : Int32)]) (rest := []) ⟨hx, hb, hml, hown, ht⟩ (c_RM_bar l D cA ad hI H.size (xs (x4 + (1 : Int32)).toNatClampNeg) (xs (x4 + (2 : Int32)).toNatClampNeg) (1 : Int32) u25 (fun hn => hs (by rw [hn] at hf; exact hf.symm))) (cwV 3 ht (good_G (gV mM_LW_90 mI_RM_bar mV_RM_bar mN_RM mk_RM_bar)) rfl rfl rfl (by decide +kernel) ⟨Nat.le_of_ble_eq_true rfl, Nat.le_of_ble_eq_true rfl⟩) ⟨fun a U g mk q => ⟨q.1, q.2.1, q.2.2.1, va_K.moved (u := U) (U := U.calling g mk a) (Vm.Alike.refl U.vm) q.2.2.2⟩, va_recv hK hP (ci := 5) (q0 := 33) rfl Xa_33, fun U hU hW => ⟨rfl, by rw [hU], by rw [hU]; exact hP, va_K.moved hW.alike hK⟩⟩ rfl rfl hl.1 rfl (lv_room (Nat.le_of_ble_eq_true rfl)) d_LW_law_439 ⟨by show _ ≤ 601024; omega, by show _ ≤ 7293000; omega⟩) hS (fun q _ h => hAS _ hS.1 q h) (fun q h => hAS _ hS.1 q h) (fun r28 u28 t H locs ht9 hvm hw hB hz1 hk1 hS => ?_)
            obtain ⟨hP, hK9⟩ := hB
            rw [ht9] at hP
            obtain ⟨hw, hz28⟩ := hw
            rw [hw, Option.bind_some] at hf
            dsimp only at hf
            refine lv_istore (lv' := [(6, .int r28), (5, .int r25), (0, .ref b), (1, .ref (ad 0)), (2, .ref (ad 33)), (3, .ref (ad 38)), (4, .int x4)]) hx hb d_LW_law_442 hl (by decide) rfl (fun ls hl => ?_)
            refine lv_aload_n hx hb d_LW_law_444 rfl (lv_at hl 4 rfl) ?_
            refine va_calli (va_runV (As := []) (rest := []) ⟨hx, hb, hml, hown, ht⟩ (c_RM_thrown l D cA ad hI H.size u28 (fun hn => hs (by rw [hn] at hf; exact hf.symm))) (cwV 0 ht (good_G (gV mM_LW_74 mI_RM_thrown mV_RM_thrown mN_RM mk_RM_thrown)) rfl rfl rfl (by decide +kernel) ⟨Nat.le_of_ble_eq_true rfl, Nat.le_of_ble_eq_true rfl⟩) ⟨fun a U g mk q => ⟨q.1, q.2.1, q.2.2.1, va_K.moved (u := U) (U := U.calling g mk a) (Vm.Alike.refl U.vm) q.2.2.2⟩, va_recv hK hP (ci := 5) (q0 := 33) rfl Xa_33, fun U hU hW => ⟨rfl, by rw [hU], by rw [hU]; exact hP, va_K.moved hW.alike hK⟩⟩ rfl rfl hl.1 rfl (lv_room (Nat.le_of_ble_eq_true rfl)) d_LW_law_445 ⟨by show _ ≤ 601024; omega, by show _ ≤ 7293000; omega⟩) hS (fun q _ h => hAS _ hS.1 q h) (fun q h => hAS _ hS.1 q h) (fun r29 _ t H locs ht9 hvm hw hB hz1 hk1 hS => ?_)
            obtain ⟨hP, hK9⟩ := hB
            rw [ht9] at hP
            rw [hw, Option.bind_some] at hf
            refine lv_iload hx hb d_LW_law_448 (lv_at hl 1 rfl) ?_
            refine lv_icmp_eq (tgt := 455) hx hb d_LW_law_450 (by decide) (fun c70 => ?_) (fun c70 => ?_)
            · rw [if_pos c70] at hf
              refine lv_iload hx hb d_LW_law_455 (lv_at hl 1 rfl) ?_
              refine lv_if_ne (tgt := 479) hx hb d_LW_law_457 (by decide) (fun c71 => ?_) (fun c71 => ?_)
              · rw [if_neg c71] at hf
                refine lv_goto (tgt := 1006) hx hb d_LW_law_479 (by decide) ?_
                refine lv_iinc (v := x4 + 4) (lv' := [(4, .int (x4 + 4)), (6, .int r28), (5, .int r25), (0, .ref b), (1, .ref (ad 0)), (2, .ref (ad 33)), (3, .ref (ad 38))]) hx hb d_LW_law_1006 hl (k := 6) rfl rfl (by decide) rfl (fun ls hl => ?_)
                refine lv_goto (tgt := 43) hx hb d_LW_law_1009 (by decide) ?_
                refine W.widen (k := cb + 3 * (k + 1)) (n := sb + 18 * (k + 1)) (by omega) (by omega) ?_
                exact ih (k + 1) (x4 + 4) u28 _ _ _ (by omega) hP hS (lv_sub hl [3, 4, 5, 6, 0] rfl) (hf.trans h1)
              · rw [if_pos c71] at hf
                refine lv_aload_n hx hb d_LW_law_460 rfl (lv_at hl 5 rfl) ?_
                refine lv_iconst (v := 0) hx hb d_LW_law_461 (by decide) ?_
                by_cases b72 : oob (0 : Int32) 1
                · rw [if_pos b72] at hf; exact absurd hf.symm hs
                rw [if_neg b72] at hf
                refine va_lald (f := u28.2 38) hx hb hK hP 38 1 Xa_38 rfl b72 d_LW_law_462 ?_
                refine lv_iload hx hb d_LW_law_463 (lv_at hl 0 rfl) ?_
                refine lv_if_eq (tgt := 472) hx hb d_LW_law_465 (by decide) (fun c73 => ?_) (fun c73 => ?_)
                · rw [if_pos c73] at hf
                  refine lv_lconst (v := 0) hx hb d_LW_law_472 (by decide) ?_
                  refine W.lcmp hx hb d_LW_law_473 ?_
                  refine lv_if_eq (tgt := 479) hx hb d_LW_law_474 (by decide) (fun c74 => ?_) (fun c74 => ?_)
                  · rw [if_pos c74] at hf
                    refine lv_goto (tgt := 1006) hx hb d_LW_law_479 (by decide) ?_
                    refine lv_iinc (v := x4 + 4) (lv' := [(4, .int (x4 + 4)), (6, .int r28), (5, .int r25), (0, .ref b), (1, .ref (ad 0)), (2, .ref (ad 33)), (3, .ref (ad 38))]) hx hb d_LW_law_1006 hl (k := 6) rfl rfl (by decide) rfl (fun ls hl => ?_)
                    refine lv_goto (tgt := 43) hx hb d_LW_law_1009 (by decide) ?_
                    refine W.widen (k := cb + 3 * (k + 1)) (n := sb + 18 * (k + 1)) (by omega) (by omega) ?_
                    exact ih (k + 1) (x4 + 4) u28 _ _ _ (by omega) hP hS (lv_sub hl [3, 4, 5, 6, 0] rfl) (hf.trans h1)
                  · rw [if_neg c74] at hf
                    refine lv_iconst (v := 0) hx hb d_LW_law_477 (by decide) ?_
                    exact absurd (hf.trans h1) (by decide)
                · rw [if_neg c73] at hf
                  refine lv_lconst (v := 1) hx hb d_LW_law_468 (by decide) ?_
                  refine lv_goto (tgt := 473) hx hb d_LW_law_469 (by decide) ?_
                  refine W.lcmp hx hb d_LW_law_473 ?_
                  refine lv_if_eq (tgt := 479) hx hb d_LW_law_474 (by decide) (fun c75 => ?_) (fun c75 => ?_)
                  · rw [if_pos c75] at hf
                    refine lv_goto (tgt := 1006) hx hb d_LW_law_479 (by decide) ?_
                    refine lv_iinc (v := x4 + 4) (lv' := [(4, .int (x4 + 4)), (6, .int r28), (5, .int r25), (0, .ref b), (1, .ref (ad 0)), (2, .ref (ad 33)), (3, .ref (ad 38))]) hx hb d_LW_law_1006 hl (k := 6) rfl rfl (by decide) rfl (fun ls hl => ?_)
                    refine lv_goto (tgt := 43) hx hb d_LW_law_1009 (by decide) ?_
                    refine W.widen (k := cb + 3 * (k + 1)) (n := sb + 18 * (k + 1)) (by omega) (by omega) ?_
                    exact ih (k + 1) (x4 + 4) u28 _ _ _ (by omega) hP hS (lv_sub hl [3, 4, 5, 6, 0] rfl) (hf.trans h1)
                  · rw [if_neg c75] at hf
                    refine lv_iconst (v := 0) hx hb d_LW_law_477 (by decide) ?_
                    exact absurd (hf.trans h1) (by decide)
            · rw [if_neg c70] at hf
              refine lv_iconst (v := 0) hx hb d_LW_law_453 (by decide) ?_
              exact absurd (hf.trans h1) (by decide)
      rw [if_neg s4] at hf
      by_cases s5 : ((xs x4.toNatClampNeg) &&& (15 : Int32)) = 5
      · rw [if_pos s5] at hf
        refine lv_tableIn (off := 423) (tgt := 482) hx hb d_LW_law_59 (by rw [s5]; decide) (by rw [s5]; decide) (by rw [s5]; decide) (by decide) ?_
        skip
        refine lv_aload_n hx hb d_LW_law_482 rfl (lv_at hl 1 rfl) ?_
        refine lv_aload_n hx hb d_LW_law_483 rfl (lv_at hl 0 rfl) ?_
        refine lv_iload hx hb d_LW_law_484 (lv_at hl 4 rfl) ?_
        refine lv_iconst (v := 1) hx hb d_LW_law_486 (by decide) ?_
        refine lv_iadd hx hb d_LW_law_487 ?_
        by_cases b76 : oob (x4 + (1 : Int32)) L
        · rw [if_pos b76] at hf; exact absurd hf.symm hs
        rw [if_neg b76] at hf
        refine va_sld hx hb hX hbl hbA hS b76 d_LW_law_488 ?_
        refine lv_aload_n hx hb d_LW_law_489 rfl (lv_at hl 3 rfl) ?_
        refine va_calli (vx_runSW (As := [.ref (ad 0), .int (xs (x4 + (1 : Int32)).toNatClampNeg), .ref (ad 38)]) (rest := []) ⟨hx, hb, hml, hown, ht⟩ (c_LW_top l hlt D cA ad hI H.size (xs (x4 + (1 : Int32)).toNatClampNeg) S (fun hn => hs (by rw [hn] at hf; exact hf.symm))) (vx_cwSW 3 ht (good_G (gS mM_LW_91 mS_LW_top mN_LW mk_LW_top)) rfl rfl rfl (by decide +kernel) ⟨Nat.le_of_ble_eq_true rfl, Nat.le_of_ble_eq_true rfl⟩) ⟨fun a U g mk q => ⟨q.1, q.2.1, q.2.2.1, va_K.moved (u := U) (U := U.calling g mk a) (Vm.Alike.refl U.vm) q.2.2.2.1, ZX.call q.2.2.2.2⟩, fun U hU hW => ⟨rfl, by rw [hU], by rw [hU]; exact hP, va_K.moved hW.alike hK, hZ.to hS (hAS _ hS.1) hU hW⟩⟩ rfl rfl hl.1 rfl (lv_room (Nat.le_of_ble_eq_true rfl)) d_LW_law_490 ⟨by show _ ≤ 601024; omega, by show _ ≤ 7293000; omega⟩) hS (fun q _ h => hAS _ hS.1 q h) (fun q h => hAS _ hS.1 q h) (fun r30 u30 t H locs ht9 hvm hw hB hz1 hk1 hS => ?_)
        obtain ⟨hP, hK9⟩ := hB
        rw [ht9] at hP
        rw [hw, Option.bind_some] at hf
        dsimp only at hf
        refine lv_istore (lv' := [(5, .int r30), (0, .ref b), (1, .ref (ad 0)), (2, .ref (ad 33)), (3, .ref (ad 38)), (4, .int x4)]) hx hb d_LW_law_493 hl (by decide) rfl (fun ls hl => ?_)
        refine lv_aload_n hx hb d_LW_law_495 rfl (lv_at hl 3 rfl) ?_
        refine lv_aload_n hx hb d_LW_law_496 rfl (lv_at hl 1 rfl) ?_
        refine lv_iload hx hb d_LW_law_497 (lv_at hl 5 rfl) ?_
        refine lv_iconst (v := 1) hx hb d_LW_law_499 (by decide) ?_
        refine lv_iadd hx hb d_LW_law_500 ?_
        refine va_sld hx hb hX hbl hbA hS b76 d_LW_law_501 ?_
        refine va_calli (va_runV (As := [.int (xs (x4 + (1 : Int32)).toNatClampNeg)]) (rest := []) ⟨hx, hb, hml, hown, ht⟩ (c_RM_top l D cA ad hI H.size (xs (x4 + (1 : Int32)).toNatClampNeg) u30 (fun hn => hs (by rw [hn] at hf; exact hf.symm))) (cwV 1 ht (good_G (gV mM_LW_93 mI_RM_top mV_RM_top mN_RM mk_RM_top)) rfl rfl rfl (by decide +kernel) ⟨Nat.le_of_ble_eq_true rfl, Nat.le_of_ble_eq_true rfl⟩) ⟨fun a U g mk q => ⟨q.1, q.2.1, q.2.2.1, va_K.moved (u := U) (U := U.calling g mk a) (Vm.Alike.refl U.vm) q.2.2.2⟩, va_recv hK hP (ci := 5) (q0 := 33) rfl Xa_33, fun U hU hW => ⟨rfl, by rw [hU], by rw [hU]; exact hP, va_K.moved hW.alike hK⟩⟩ rfl rfl hl.1 rfl (lv_room (Nat.le_of_ble_eq_true rfl)) d_LW_law_502 ⟨by show _ ≤ 601024; omega, by show _ ≤ 7293000; omega⟩) hS (fun q _ h => hAS _ hS.1 q h) (fun q h => hAS _ hS.1 q h) (fun r31 u31 t H locs ht9 hvm hw hB hz1 hk1 hS => ?_)
        obtain ⟨hP, hK9⟩ := hB
        rw [ht9] at hP
        rw [hw, Option.bind_some] at hf
        dsimp only at hf
        refine lv_istore (lv' := [(6, .int r31), (5, .int r30), (0, .ref b), (1, .ref (ad 0)), (2, .ref (ad 33)), (3, .ref (ad 38)), (4, .int x4)]) hx hb d_LW_law_505 hl (by decide) rfl (fun ls hl => ?_)
        refine lv_aload_n hx hb d_LW_law_507 rfl (lv_at hl 4 rfl) ?_
        refine va_calli (va_runV (As := []) (rest := []) ⟨hx, hb, hml, hown, ht⟩ (c_RM_thrown l D cA ad hI H.size u31 (fun hn => hs (by rw [hn] at hf; exact hf.symm))) (cwV 0 ht (good_G (gV mM_LW_74 mI_RM_thrown mV_RM_thrown mN_RM mk_RM_thrown)) rfl rfl rfl (by decide +kernel) ⟨Nat.le_of_ble_eq_true rfl, Nat.le_of_ble_eq_true rfl⟩) ⟨fun a U g mk q => ⟨q.1, q.2.1, q.2.2.1, va_K.moved (u := U) (U := U.calling g mk a) (Vm.Alike.refl U.vm) q.2.2.2⟩, va_recv hK hP (ci := 5) (q0 := 33) rfl Xa_33, fun U hU hW => ⟨rfl, by rw [hU], by rw [hU]; exact hP, va_K.moved hW.alike hK⟩⟩ rfl rfl hl.1 rfl (lv_room (Nat.le_of_ble_eq_true rfl)) d_LW_law_508 ⟨by show _ ≤ 601024; omega, by show _ ≤ 7293000; omega⟩) hS (fun q _ h => hAS _ hS.1 q h) (fun q h => hAS _ hS.1 q h) (fun r32 _ t H locs ht9 hvm hw hB hz1 hk1 hS => ?_)
        obtain ⟨hP, hK9⟩ := hB
        rw [ht9] at hP
        rw [hw, Option.bind_some] at hf
        refine lv_iload hx hb d_LW_law_511 (lv_at hl 1 rfl) ?_
        refine lv_icmp_eq (tgt := 518) hx hb d_LW_law_513 (by decide) (fun c77 => ?_) (fun c77 => ?_)
        · rw [if_pos c77] at hf
          refine lv_iload hx hb d_LW_law_518 (lv_at hl 1 rfl) ?_
          refine lv_if_ne (tgt := 535) hx hb d_LW_law_520 (by decide) (fun c78 => ?_) (fun c78 => ?_)
          · rw [if_neg c78] at hf
            refine lv_goto (tgt := 1006) hx hb d_LW_law_535 (by decide) ?_
            refine lv_iinc (v := x4 + 4) (lv' := [(4, .int (x4 + 4)), (6, .int r31), (5, .int r30), (0, .ref b), (1, .ref (ad 0)), (2, .ref (ad 33)), (3, .ref (ad 38))]) hx hb d_LW_law_1006 hl (k := 6) rfl rfl (by decide) rfl (fun ls hl => ?_)
            refine lv_goto (tgt := 43) hx hb d_LW_law_1009 (by decide) ?_
            refine W.widen (k := cb + 3 * (k + 1)) (n := sb + 18 * (k + 1)) (by omega) (by omega) ?_
            exact ih (k + 1) (x4 + 4) u31 _ _ _ (by omega) hP hS (lv_sub hl [3, 4, 5, 6, 0] rfl) (hf.trans h1)
          · rw [if_pos c78] at hf
            refine lv_aload_n hx hb d_LW_law_523 rfl (lv_at hl 5 rfl) ?_
            refine lv_iconst (v := 0) hx hb d_LW_law_524 (by decide) ?_
            by_cases b79 : oob (0 : Int32) 1
            · rw [if_pos b79] at hf; exact absurd hf.symm hs
            rw [if_neg b79] at hf
            refine va_lald (f := u31.2 38) hx hb hK hP 38 1 Xa_38 rfl b79 d_LW_law_525 ?_
            refine lv_iload hx hb d_LW_law_526 (lv_at hl 0 rfl) ?_
            refine lv_i2l hx hb d_LW_law_528 rfl ?_
            refine W.lcmp hx hb d_LW_law_529 ?_
            refine lv_if_eq (tgt := 535) hx hb d_LW_law_530 (by decide) (fun c80 => ?_) (fun c80 => ?_)
            · rw [if_pos c80] at hf
              refine lv_goto (tgt := 1006) hx hb d_LW_law_535 (by decide) ?_
              refine lv_iinc (v := x4 + 4) (lv' := [(4, .int (x4 + 4)), (6, .int r31), (5, .int r30), (0, .ref b), (1, .ref (ad 0)), (2, .ref (ad 33)), (3, .ref (ad 38))]) hx hb d_LW_law_1006 hl (k := 6) rfl rfl (by decide) rfl (fun ls hl => ?_)
              refine lv_goto (tgt := 43) hx hb d_LW_law_1009 (by decide) ?_
              refine W.widen (k := cb + 3 * (k + 1)) (n := sb + 18 * (k + 1)) (by omega) (by omega) ?_
              exact ih (k + 1) (x4 + 4) u31 _ _ _ (by omega) hP hS (lv_sub hl [3, 4, 5, 6, 0] rfl) (hf.trans h1)
            · rw [if_neg c80] at hf
              refine lv_iconst (v := 0) hx hb d_LW_law_533 (by decide) ?_
              exact absurd (hf.trans h1) (by decide)
        · rw [if_neg c77] at hf
          refine lv_iconst (v := 0) hx hb d_LW_law_516 (by decide) ?_
          exact absurd (hf.trans h1) (by decide)
      rw [if_neg s5] at hf
      by_cases s6 : ((xs x4.toNatClampNeg) &&& (15 : Int32)) = 6
      · rw [if_pos s6] at hf
        refine lv_tableIn (off := 479) (tgt := 538) hx hb d_LW_law_59 (by rw [s6]; decide) (by rw [s6]; decide) (by rw [s6]; decide) (by decide) ?_
        skip
        refine lv_aload_n hx hb d_LW_law_538 rfl (lv_at hl 1 rfl) ?_
        refine lv_aload_n hx hb d_LW_law_539 rfl (lv_at hl 0 rfl) ?_
        refine lv_iload hx hb d_LW_law_540 (lv_at hl 4 rfl) ?_
        refine lv_iconst (v := 1) hx hb d_LW_law_542 (by decide) ?_
        refine lv_iadd hx hb d_LW_law_543 ?_
        by_cases b81 : oob (x4 + (1 : Int32)) L
        · rw [if_pos b81] at hf; exact absurd hf.symm hs
        rw [if_neg b81] at hf
        refine va_sld hx hb hX hbl hbA hS b81 d_LW_law_544 ?_
        refine lv_aload_n hx hb d_LW_law_545 rfl (lv_at hl 3 rfl) ?_
        refine va_calli (vx_runSW (As := [.ref (ad 0), .int (xs (x4 + (1 : Int32)).toNatClampNeg), .ref (ad 38)]) (rest := []) ⟨hx, hb, hml, hown, ht⟩ (c_LW_run l hlt D cA ad hI H.size (xs (x4 + (1 : Int32)).toNatClampNeg) S (fun hn => hs (by rw [hn] at hf; exact hf.symm))) (vx_cwSW 3 ht (good_G (gS mM_LW_94 mS_LW_run mN_LW mk_LW_run)) rfl rfl rfl (by decide +kernel) ⟨Nat.le_of_ble_eq_true rfl, Nat.le_of_ble_eq_true rfl⟩) ⟨fun a U g mk q => ⟨q.1, q.2.1, q.2.2.1, va_K.moved (u := U) (U := U.calling g mk a) (Vm.Alike.refl U.vm) q.2.2.2.1, ZX.call q.2.2.2.2⟩, fun U hU hW => ⟨rfl, by rw [hU], by rw [hU]; exact hP, va_K.moved hW.alike hK, hZ.to hS (hAS _ hS.1) hU hW⟩⟩ rfl rfl hl.1 rfl (lv_room (Nat.le_of_ble_eq_true rfl)) d_LW_law_546 ⟨by show _ ≤ 601024; omega, by show _ ≤ 7293000; omega⟩) hS (fun q _ h => hAS _ hS.1 q h) (fun q h => hAS _ hS.1 q h) (fun r33 u33 t H locs ht9 hvm hw hB hz1 hk1 hS => ?_)
        obtain ⟨hP, hK9⟩ := hB
        rw [ht9] at hP
        rw [hw, Option.bind_some] at hf
        dsimp only at hf
        refine lv_istore (lv' := [(5, .int r33), (0, .ref b), (1, .ref (ad 0)), (2, .ref (ad 33)), (3, .ref (ad 38)), (4, .int x4)]) hx hb d_LW_law_549 hl (by decide) rfl (fun ls hl => ?_)
        refine lv_aload_n hx hb d_LW_law_551 rfl (lv_at hl 3 rfl) ?_
        refine lv_aload_n hx hb d_LW_law_552 rfl (lv_at hl 1 rfl) ?_
        refine lv_iload hx hb d_LW_law_553 (lv_at hl 5 rfl) ?_
        refine lv_iconst (v := 1) hx hb d_LW_law_555 (by decide) ?_
        refine lv_iadd hx hb d_LW_law_556 ?_
        refine va_sld hx hb hX hbl hbA hS b81 d_LW_law_557 ?_
        refine va_calli (va_runV (As := [.int (xs (x4 + (1 : Int32)).toNatClampNeg)]) (rest := []) ⟨hx, hb, hml, hown, ht⟩ (c_RM_run l D cA ad hI H.size (xs (x4 + (1 : Int32)).toNatClampNeg) u33 (fun hn => hs (by rw [hn] at hf; exact hf.symm))) (cwV 1 ht (good_G (gV mM_LW_96 mI_RM_run mV_RM_run mN_RM mk_RM_run)) rfl rfl rfl (by decide +kernel) ⟨Nat.le_of_ble_eq_true rfl, Nat.le_of_ble_eq_true rfl⟩) ⟨fun a U g mk q => ⟨q.1, q.2.1, q.2.2.1, va_K.moved (u := U) (U := U.calling g mk a) (Vm.Alike.refl U.vm) q.2.2.2⟩, va_recv hK hP (ci := 5) (q0 := 33) rfl Xa_33, fun U hU hW => ⟨rfl, by rw [hU], by rw [hU]; exact hP, va_K.moved hW.alike hK⟩⟩ rfl rfl hl.1 rfl (lv_room (Nat.le_of_ble_eq_true rfl)) d_LW_law_558 ⟨by show _ ≤ 601024; omega, by show _ ≤ 7293000; omega⟩) hS (fun q _ h => hAS _ hS.1 q h) (fun q h => hAS _ hS.1 q h) (fun r34 u34 t H locs ht9 hvm hw hB hz1 hk1 hS => ?_)
        obtain ⟨hP, hK9⟩ := hB
        rw [ht9] at hP
        rw [hw, Option.bind_some] at hf
        dsimp only at hf
        refine lv_istore (lv' := [(6, .int r34), (5, .int r33), (0, .ref b), (1, .ref (ad 0)), (2, .ref (ad 33)), (3, .ref (ad 38)), (4, .int x4)]) hx hb d_LW_law_561 hl (by decide) rfl (fun ls hl => ?_)
        refine lv_aload_n hx hb d_LW_law_563 rfl (lv_at hl 4 rfl) ?_
        refine va_calli (va_runV (As := []) (rest := []) ⟨hx, hb, hml, hown, ht⟩ (c_RM_thrown l D cA ad hI H.size u34 (fun hn => hs (by rw [hn] at hf; exact hf.symm))) (cwV 0 ht (good_G (gV mM_LW_74 mI_RM_thrown mV_RM_thrown mN_RM mk_RM_thrown)) rfl rfl rfl (by decide +kernel) ⟨Nat.le_of_ble_eq_true rfl, Nat.le_of_ble_eq_true rfl⟩) ⟨fun a U g mk q => ⟨q.1, q.2.1, q.2.2.1, va_K.moved (u := U) (U := U.calling g mk a) (Vm.Alike.refl U.vm) q.2.2.2⟩, va_recv hK hP (ci := 5) (q0 := 33) rfl Xa_33, fun U hU hW => ⟨rfl, by rw [hU], by rw [hU]; exact hP, va_K.moved hW.alike hK⟩⟩ rfl rfl hl.1 rfl (lv_room (Nat.le_of_ble_eq_true rfl)) d_LW_law_564 ⟨by show _ ≤ 601024; omega, by show _ ≤ 7293000; omega⟩) hS (fun q _ h => hAS _ hS.1 q h) (fun q h => hAS _ hS.1 q h) (fun r35 _ t H locs ht9 hvm hw hB hz1 hk1 hS => ?_)
        obtain ⟨hP, hK9⟩ := hB
        rw [ht9] at hP
        rw [hw, Option.bind_some] at hf
        refine lv_iload hx hb d_LW_law_567 (lv_at hl 1 rfl) ?_
        refine lv_icmp_eq (tgt := 574) hx hb d_LW_law_569 (by decide) (fun c82 => ?_) (fun c82 => ?_)
        · rw [if_pos c82] at hf
          refine lv_iload hx hb d_LW_law_574 (lv_at hl 1 rfl) ?_
          refine lv_if_ne (tgt := 591) hx hb d_LW_law_576 (by decide) (fun c83 => ?_) (fun c83 => ?_)
          · rw [if_neg c83] at hf
            refine lv_goto (tgt := 1006) hx hb d_LW_law_591 (by decide) ?_
            refine lv_iinc (v := x4 + 4) (lv' := [(4, .int (x4 + 4)), (6, .int r34), (5, .int r33), (0, .ref b), (1, .ref (ad 0)), (2, .ref (ad 33)), (3, .ref (ad 38))]) hx hb d_LW_law_1006 hl (k := 6) rfl rfl (by decide) rfl (fun ls hl => ?_)
            refine lv_goto (tgt := 43) hx hb d_LW_law_1009 (by decide) ?_
            refine W.widen (k := cb + 3 * (k + 1)) (n := sb + 18 * (k + 1)) (by omega) (by omega) ?_
            exact ih (k + 1) (x4 + 4) u34 _ _ _ (by omega) hP hS (lv_sub hl [3, 4, 5, 6, 0] rfl) (hf.trans h1)
          · rw [if_pos c83] at hf
            refine lv_aload_n hx hb d_LW_law_579 rfl (lv_at hl 5 rfl) ?_
            refine lv_iconst (v := 0) hx hb d_LW_law_580 (by decide) ?_
            by_cases b84 : oob (0 : Int32) 1
            · rw [if_pos b84] at hf; exact absurd hf.symm hs
            rw [if_neg b84] at hf
            refine va_lald (f := u34.2 38) hx hb hK hP 38 1 Xa_38 rfl b84 d_LW_law_581 ?_
            refine lv_iload hx hb d_LW_law_582 (lv_at hl 0 rfl) ?_
            refine lv_i2l hx hb d_LW_law_584 rfl ?_
            refine W.lcmp hx hb d_LW_law_585 ?_
            refine lv_if_eq (tgt := 591) hx hb d_LW_law_586 (by decide) (fun c85 => ?_) (fun c85 => ?_)
            · rw [if_pos c85] at hf
              refine lv_goto (tgt := 1006) hx hb d_LW_law_591 (by decide) ?_
              refine lv_iinc (v := x4 + 4) (lv' := [(4, .int (x4 + 4)), (6, .int r34), (5, .int r33), (0, .ref b), (1, .ref (ad 0)), (2, .ref (ad 33)), (3, .ref (ad 38))]) hx hb d_LW_law_1006 hl (k := 6) rfl rfl (by decide) rfl (fun ls hl => ?_)
              refine lv_goto (tgt := 43) hx hb d_LW_law_1009 (by decide) ?_
              refine W.widen (k := cb + 3 * (k + 1)) (n := sb + 18 * (k + 1)) (by omega) (by omega) ?_
              exact ih (k + 1) (x4 + 4) u34 _ _ _ (by omega) hP hS (lv_sub hl [3, 4, 5, 6, 0] rfl) (hf.trans h1)
            · rw [if_neg c85] at hf
              refine lv_iconst (v := 0) hx hb d_LW_law_589 (by decide) ?_
              exact absurd (hf.trans h1) (by decide)
        · rw [if_neg c82] at hf
          refine lv_iconst (v := 0) hx hb d_LW_law_572 (by decide) ?_
          exact absurd (hf.trans h1) (by decide)
      rw [if_neg s6] at hf
      by_cases s7 : ((xs x4.toNatClampNeg) &&& (15 : Int32)) = 7
      · rw [if_pos s7] at hf
        refine lv_tableIn (off := 535) (tgt := 594) hx hb d_LW_law_59 (by rw [s7]; decide) (by rw [s7]; decide) (by rw [s7]; decide) (by decide) ?_
        skip
        refine lv_aload_n hx hb d_LW_law_594 rfl (lv_at hl 1 rfl) ?_
        refine va_calli (va_runV (As := []) (rest := []) ⟨hx, hb, hml, hown, ht⟩ (c_MK_tries l D cA ad hI H.size S (fun hn => hs (by rw [hn] at hf; exact hf.symm))) (cwV 0 ht (good_G (gV mM_LW_97 mI_MK_tries mV_MK_tries mN_MK mk_MK_tries)) rfl rfl rfl (by decide +kernel) ⟨Nat.le_of_ble_eq_true rfl, Nat.le_of_ble_eq_true rfl⟩) ⟨fun a U g mk q => ⟨q.1, q.2.1, q.2.2.1, va_K.moved (u := U) (U := U.calling g mk a) (Vm.Alike.refl U.vm) q.2.2.2⟩, va_recv hK hP (ci := 0) (q0 := 0) rfl Xa_0, fun U hU hW => ⟨rfl, by rw [hU], by rw [hU]; exact hP, va_K.moved hW.alike hK⟩⟩ rfl rfl hl.1 rfl (lv_room (Nat.le_of_ble_eq_true rfl)) d_LW_law_595 ⟨by show _ ≤ 601024; omega, by show _ ≤ 7293000; omega⟩) hS (fun q _ h => hAS _ hS.1 q h) (fun q h => hAS _ hS.1 q h) (fun r36 _ t H locs ht9 hvm hw hB hz1 hk1 hS => ?_)
        obtain ⟨hP, hK9⟩ := hB
        rw [ht9] at hP
        rw [hw, Option.bind_some] at hf
        refine lv_aload_n hx hb d_LW_law_598 rfl (lv_at hl 2 rfl) ?_
        refine va_calli (va_runV (As := []) (rest := [.int r36]) ⟨hx, hb, hml, hown, ht⟩ (c_RM_tries l D cA ad hI H.size S (fun hn => hs (by rw [hn] at hf; exact hf.symm))) (cwV 0 ht (good_G (gV mM_LW_100 mI_RM_tries mV_RM_tries mN_RM mk_RM_tries)) rfl rfl rfl (by decide +kernel) ⟨Nat.le_of_ble_eq_true rfl, Nat.le_of_ble_eq_true rfl⟩) ⟨fun a U g mk q => ⟨q.1, q.2.1, q.2.2.1, va_K.moved (u := U) (U := U.calling g mk a) (Vm.Alike.refl U.vm) q.2.2.2⟩, va_recv hK hP (ci := 5) (q0 := 33) rfl Xa_33, fun U hU hW => ⟨rfl, by rw [hU], by rw [hU]; exact hP, va_K.moved hW.alike hK⟩⟩ rfl rfl hl.1 rfl (lv_room (Nat.le_of_ble_eq_true rfl)) d_LW_law_599 ⟨by show _ ≤ 601024; omega, by show _ ≤ 7293000; omega⟩) hS (fun q _ h => hAS _ hS.1 q h) (fun q h => hAS _ hS.1 q h) (fun r37 u37 t H locs ht9 hvm hw hB hz1 hk1 hS => ?_)
        obtain ⟨hP, hK9⟩ := hB
        rw [ht9] at hP
        rw [hw, Option.bind_some] at hf
        dsimp only at hf
        refine lv_icmp_eq (tgt := 1006) hx hb d_LW_law_602 (by decide) (fun c86 => ?_) (fun c86 => ?_)
        · rw [if_pos c86] at hf
          refine lv_iinc (v := x4 + 4) (lv' := [(4, .int (x4 + 4)), (0, .ref b), (1, .ref (ad 0)), (2, .ref (ad 33)), (3, .ref (ad 38))]) hx hb d_LW_law_1006 hl (k := 4) rfl rfl (by decide) rfl (fun ls hl => ?_)
          refine lv_goto (tgt := 43) hx hb d_LW_law_1009 (by decide) ?_
          refine W.widen (k := cb + 3 * (k + 1)) (n := sb + 18 * (k + 1)) (by omega) (by omega) ?_
          exact ih (k + 1) (x4 + 4) u37 _ _ _ (by omega) hP hS (lv_sub hl [1, 2, 3, 4, 0] rfl) (hf.trans h1)
        · rw [if_neg c86] at hf
          refine lv_iconst (v := 0) hx hb d_LW_law_605 (by decide) ?_
          exact absurd (hf.trans h1) (by decide)
      rw [if_neg s7] at hf
      by_cases s8 : ((xs x4.toNatClampNeg) &&& (15 : Int32)) = 8
      · rw [if_pos s8] at hf
        refine lv_tableIn (off := 548) (tgt := 607) hx hb d_LW_law_59 (by rw [s8]; decide) (by rw [s8]; decide) (by rw [s8]; decide) (by decide) ?_
        skip
        refine lv_aload_n hx hb d_LW_law_607 rfl (lv_at hl 1 rfl) ?_
        refine lv_aload_n hx hb d_LW_law_608 rfl (lv_at hl 0 rfl) ?_
        refine lv_iload hx hb d_LW_law_609 (lv_at hl 4 rfl) ?_
        refine lv_iconst (v := 1) hx hb d_LW_law_611 (by decide) ?_
        refine lv_iadd hx hb d_LW_law_612 ?_
        by_cases b87 : oob (x4 + (1 : Int32)) L
        · rw [if_pos b87] at hf; exact absurd hf.symm hs
        rw [if_neg b87] at hf
        refine va_sld hx hb hX hbl hbA hS b87 d_LW_law_613 ?_
        refine lv_aload_n hx hb d_LW_law_614 rfl (lv_at hl 0 rfl) ?_
        refine lv_iload hx hb d_LW_law_615 (lv_at hl 4 rfl) ?_
        refine lv_iconst (v := 2) hx hb d_LW_law_617 (by decide) ?_
        refine lv_iadd hx hb d_LW_law_618 ?_
        by_cases b88 : oob (x4 + (2 : Int32)) L
        · rw [if_pos b88] at hf; exact absurd hf.symm hs
        rw [if_neg b88] at hf
        refine va_sld hx hb hX hbl hbA hS b88 d_LW_law_619 ?_
        refine lv_aload_n hx hb d_LW_law_620 rfl (lv_at hl 3 rfl) ?_
        refine va_calli (vx_runSW (As := [.ref (ad 0), .int (xs (x4 + (1 : Int32)).toNatClampNeg), .int (xs (x4 + (2 : Int32)).toNatClampNeg), .ref (ad 38)]) (rest := []) ⟨hx, hb, hml, hown, ht⟩ (c_LW_cut l hlt D cA ad hI H.size (xs (x4 + (1 : Int32)).toNatClampNeg) (xs (x4 + (2 : Int32)).toNatClampNeg) S (fun hn => hs (by rw [hn] at hf; exact hf.symm))) (vx_cwSW 4 ht (good_G (gS mM_LW_101 mS_LW_cut mN_LW mk_LW_cut)) rfl rfl rfl (by decide +kernel) ⟨Nat.le_of_ble_eq_true rfl, Nat.le_of_ble_eq_true rfl⟩) ⟨fun a U g mk q => ⟨q.1, q.2.1, q.2.2.1, va_K.moved (u := U) (U := U.calling g mk a) (Vm.Alike.refl U.vm) q.2.2.2.1, ZX.call q.2.2.2.2⟩, fun U hU hW => ⟨rfl, by rw [hU], by rw [hU]; exact hP, va_K.moved hW.alike hK, hZ.to hS (hAS _ hS.1) hU hW⟩⟩ rfl rfl hl.1 rfl (lv_room (Nat.le_of_ble_eq_true rfl)) d_LW_law_621 ⟨by show _ ≤ 601024; omega, by show _ ≤ 7293000; omega⟩) hS (fun q _ h => hAS _ hS.1 q h) (fun q h => hAS _ hS.1 q h) (fun r38 u38 t H locs ht9 hvm hw hB hz1 hk1 hS => ?_)
        obtain ⟨hP, hK9⟩ := hB
        rw [ht9] at hP
        rw [hw, Option.bind_some] at hf
        dsimp only at hf
        refine lv_istore (lv' := [(5, .int r38), (0, .ref b), (1, .ref (ad 0)), (2, .ref (ad 33)), (3, .ref (ad 38)), (4, .int x4)]) hx hb d_LW_law_624 hl (by decide) rfl (fun ls hl => ?_)
        refine lv_aload_n hx hb d_LW_law_626 rfl (lv_at hl 3 rfl) ?_
        refine lv_aload_n hx hb d_LW_law_627 rfl (lv_at hl 1 rfl) ?_
        refine lv_iload hx hb d_LW_law_628 (lv_at hl 5 rfl) ?_
        refine lv_iconst (v := 1) hx hb d_LW_law_630 (by decide) ?_
        refine lv_iadd hx hb d_LW_law_631 ?_
        refine va_sld hx hb hX hbl hbA hS b87 d_LW_law_632 ?_
        refine lv_aload_n hx hb d_LW_law_633 rfl (lv_at hl 1 rfl) ?_
        refine lv_iload hx hb d_LW_law_634 (lv_at hl 5 rfl) ?_
        refine lv_iconst (v := 2) hx hb d_LW_law_636 (by decide) ?_
        refine lv_iadd hx hb d_LW_law_637 ?_
        refine va_sld hx hb hX hbl hbA hS b88 d_LW_law_638 ?_
        refine va_calli (va_runV (As := [.int (xs (x4 + (1 : Int32)).toNatClampNeg), .int (xs (x4 + (2 : Int32)).toNatClampNeg)]) (rest := []) ⟨hx, hb, hml, hown, ht⟩ (c_RM_cut l D cA ad hI H.size (xs (x4 + (1 : Int32)).toNatClampNeg) (xs (x4 + (2 : Int32)).toNatClampNeg) u38 (fun hn => hs (by rw [hn] at hf; exact hf.symm))) (cwV 2 ht (good_G (gV mM_LW_104 mI_RM_cut mV_RM_cut mN_RM mk_RM_cut)) rfl rfl rfl (by decide +kernel) ⟨Nat.le_of_ble_eq_true rfl, Nat.le_of_ble_eq_true rfl⟩) ⟨fun a U g mk q => ⟨q.1, q.2.1, q.2.2.1, va_K.moved (u := U) (U := U.calling g mk a) (Vm.Alike.refl U.vm) q.2.2.2⟩, va_recv hK hP (ci := 5) (q0 := 33) rfl Xa_33, fun U hU hW => ⟨rfl, by rw [hU], by rw [hU]; exact hP, va_K.moved hW.alike hK⟩⟩ rfl rfl hl.1 rfl (lv_room (Nat.le_of_ble_eq_true rfl)) d_LW_law_639 ⟨by show _ ≤ 601024; omega, by show _ ≤ 7293000; omega⟩) hS (fun q _ h => hAS _ hS.1 q h) (fun q h => hAS _ hS.1 q h) (fun r39 u39 t H locs ht9 hvm hw hB hz1 hk1 hS => ?_)
        obtain ⟨hP, hK9⟩ := hB
        rw [ht9] at hP
        rw [hw, Option.bind_some] at hf
        dsimp only at hf
        refine lv_istore (lv' := [(6, .int r39), (5, .int r38), (0, .ref b), (1, .ref (ad 0)), (2, .ref (ad 33)), (3, .ref (ad 38)), (4, .int x4)]) hx hb d_LW_law_642 hl (by decide) rfl (fun ls hl => ?_)
        refine lv_aload_n hx hb d_LW_law_644 rfl (lv_at hl 4 rfl) ?_
        refine va_calli (va_runV (As := []) (rest := []) ⟨hx, hb, hml, hown, ht⟩ (c_RM_thrown l D cA ad hI H.size u39 (fun hn => hs (by rw [hn] at hf; exact hf.symm))) (cwV 0 ht (good_G (gV mM_LW_74 mI_RM_thrown mV_RM_thrown mN_RM mk_RM_thrown)) rfl rfl rfl (by decide +kernel) ⟨Nat.le_of_ble_eq_true rfl, Nat.le_of_ble_eq_true rfl⟩) ⟨fun a U g mk q => ⟨q.1, q.2.1, q.2.2.1, va_K.moved (u := U) (U := U.calling g mk a) (Vm.Alike.refl U.vm) q.2.2.2⟩, va_recv hK hP (ci := 5) (q0 := 33) rfl Xa_33, fun U hU hW => ⟨rfl, by rw [hU], by rw [hU]; exact hP, va_K.moved hW.alike hK⟩⟩ rfl rfl hl.1 rfl (lv_room (Nat.le_of_ble_eq_true rfl)) d_LW_law_645 ⟨by show _ ≤ 601024; omega, by show _ ≤ 7293000; omega⟩) hS (fun q _ h => hAS _ hS.1 q h) (fun q h => hAS _ hS.1 q h) (fun r40 _ t H locs ht9 hvm hw hB hz1 hk1 hS => ?_)
        obtain ⟨hP, hK9⟩ := hB
        rw [ht9] at hP
        rw [hw, Option.bind_some] at hf
        refine lv_iload hx hb d_LW_law_648 (lv_at hl 1 rfl) ?_
        refine lv_icmp_eq (tgt := 655) hx hb d_LW_law_650 (by decide) (fun c89 => ?_) (fun c89 => ?_)
        · rw [if_pos c89] at hf
          refine lv_iload hx hb d_LW_law_655 (lv_at hl 1 rfl) ?_
          refine lv_if_ne (tgt := 672) hx hb d_LW_law_657 (by decide) (fun c90 => ?_) (fun c90 => ?_)
          · rw [if_neg c90] at hf
            refine lv_goto (tgt := 1006) hx hb d_LW_law_672 (by decide) ?_
            refine lv_iinc (v := x4 + 4) (lv' := [(4, .int (x4 + 4)), (6, .int r39), (5, .int r38), (0, .ref b), (1, .ref (ad 0)), (2, .ref (ad 33)), (3, .ref (ad 38))]) hx hb d_LW_law_1006 hl (k := 6) rfl rfl (by decide) rfl (fun ls hl => ?_)
            refine lv_goto (tgt := 43) hx hb d_LW_law_1009 (by decide) ?_
            refine W.widen (k := cb + 3 * (k + 1)) (n := sb + 18 * (k + 1)) (by omega) (by omega) ?_
            exact ih (k + 1) (x4 + 4) u39 _ _ _ (by omega) hP hS (lv_sub hl [3, 4, 5, 6, 0] rfl) (hf.trans h1)
          · rw [if_pos c90] at hf
            refine lv_aload_n hx hb d_LW_law_660 rfl (lv_at hl 5 rfl) ?_
            refine lv_iconst (v := 0) hx hb d_LW_law_661 (by decide) ?_
            by_cases b91 : oob (0 : Int32) 1
            · rw [if_pos b91] at hf; exact absurd hf.symm hs
            rw [if_neg b91] at hf
            refine va_lald (f := u39.2 38) hx hb hK hP 38 1 Xa_38 rfl b91 d_LW_law_662 ?_
            refine lv_iload hx hb d_LW_law_663 (lv_at hl 0 rfl) ?_
            refine lv_i2l hx hb d_LW_law_665 rfl ?_
            refine W.lcmp hx hb d_LW_law_666 ?_
            refine lv_if_eq (tgt := 672) hx hb d_LW_law_667 (by decide) (fun c92 => ?_) (fun c92 => ?_)
            · rw [if_pos c92] at hf
              refine lv_goto (tgt := 1006) hx hb d_LW_law_672 (by decide) ?_
              refine lv_iinc (v := x4 + 4) (lv' := [(4, .int (x4 + 4)), (6, .int r39), (5, .int r38), (0, .ref b), (1, .ref (ad 0)), (2, .ref (ad 33)), (3, .ref (ad 38))]) hx hb d_LW_law_1006 hl (k := 6) rfl rfl (by decide) rfl (fun ls hl => ?_)
              refine lv_goto (tgt := 43) hx hb d_LW_law_1009 (by decide) ?_
              refine W.widen (k := cb + 3 * (k + 1)) (n := sb + 18 * (k + 1)) (by omega) (by omega) ?_
              exact ih (k + 1) (x4 + 4) u39 _ _ _ (by omega) hP hS (lv_sub hl [3, 4, 5, 6, 0] rfl) (hf.trans h1)
            · rw [if_neg c92] at hf
              refine lv_iconst (v := 0) hx hb d_LW_law_670 (by decide) ?_
              exact absurd (hf.trans h1) (by decide)
        · rw [if_neg c89] at hf
          refine lv_iconst (v := 0) hx hb d_LW_law_653 (by decide) ?_
          exact absurd (hf.trans h1) (by decide)
      rw [if_neg s8] at hf
      by_cases s9 : ((xs x4.toNatClampNeg) &&& (15 : Int32)) = 9
      · rw [if_pos s9] at hf
        refine lv_tableIn (off := 616) (tgt := 675) hx hb d_LW_law_59 (by rw [s9]; decide) (by rw [s9]; decide) (by rw [s9]; decide) (by decide) ?_
        skip
        refine lv_aload_n hx hb d_LW_law_675 rfl (lv_at hl 1 rfl) ?_
        refine lv_aload_n hx hb d_LW_law_676 rfl (lv_at hl 0 rfl) ?_
        refine lv_iload hx hb d_LW_law_677 (lv_at hl 4 rfl) ?_
        refine lv_iconst (v := 1) hx hb d_LW_law_679 (by decide) ?_
        refine lv_iadd hx hb d_LW_law_680 ?_
        by_cases b93 : oob (x4 + (1 : Int32)) L
        · rw [if_pos b93] at hf; exact absurd hf.symm hs
        rw [if_neg b93] at hf
        refine va_sld hx hb hX hbl hbA hS b93 d_LW_law_681 ?_
        refine lv_aload_n hx hb d_LW_law_682 rfl (lv_at hl 0 rfl) ?_
        refine lv_iload hx hb d_LW_law_683 (lv_at hl 4 rfl) ?_
        refine lv_iconst (v := 2) hx hb d_LW_law_685 (by decide) ?_
        refine lv_iadd hx hb d_LW_law_686 ?_
        by_cases b94 : oob (x4 + (2 : Int32)) L
        · rw [if_pos b94] at hf; exact absurd hf.symm hs
        rw [if_neg b94] at hf
        refine va_sld hx hb hX hbl hbA hS b94 d_LW_law_687 ?_
        refine lv_aload_n hx hb d_LW_law_688 rfl (lv_at hl 0 rfl) ?_
        refine lv_iload hx hb d_LW_law_689 (lv_at hl 4 rfl) ?_
        refine lv_iconst (v := 3) hx hb d_LW_law_691 (by decide) ?_
        refine lv_iadd hx hb d_LW_law_692 ?_
        by_cases b95 : oob (x4 + (3 : Int32)) L
        · rw [if_pos b95] at hf; exact absurd hf.symm hs
        rw [if_neg b95] at hf
        refine va_sld hx hb hX hbl hbA hS b95 d_LW_law_693 ?_
        refine lv_aload_n hx hb d_LW_law_694 rfl (lv_at hl 3 rfl) ?_
        refine va_calli (vx_runSW (As := [.ref (ad 0), .int (xs (x4 + (1 : Int32)).toNatClampNeg), .int (xs (x4 + (2 : Int32)).toNatClampNeg), .int (xs (x4 + (3 : Int32)).toNatClampNeg), .ref (ad 38)]) (rest := []) ⟨hx, hb, hml, hown, ht⟩ (c_LW_holds l hlt D cA ad hI H.size (xs (x4 + (1 : Int32)).toNatClampNeg) (xs (x4 + (2 : Int32)).toNatClampNeg) (xs (x4 + (3 : Int32)).toNatClampNeg) S (fun hn => hs (by rw [hn] at hf; exact hf.symm))) (vx_cwSW 5 ht (good_G (gS mM_LW_105 mS_LW_holds mN_LW mk_LW_holds)) rfl rfl rfl (by decide +kernel) ⟨Nat.le_of_ble_eq_true rfl, Nat.le_of_ble_eq_true rfl⟩) ⟨fun a U g mk q => ⟨q.1, q.2.1, q.2.2.1, va_K.moved (u := U) (U := U.calling g mk a) (Vm.Alike.refl U.vm) q.2.2.2.1, ZX.call q.2.2.2.2⟩, fun U hU hW => ⟨rfl, by rw [hU], by rw [hU]; exact hP, va_K.moved hW.alike hK, hZ.to hS (hAS _ hS.1) hU hW⟩⟩ rfl rfl hl.1 rfl (lv_room (Nat.le_of_ble_eq_true rfl)) d_LW_law_695 ⟨by show _ ≤ 601024; omega, by show _ ≤ 7293000; omega⟩) hS (fun q _ h => hAS _ hS.1 q h) (fun q h => hAS _ hS.1 q h) (fun r41 u41 t H locs ht9 hvm hw hB hz1 hk1 hS => ?_)
        obtain ⟨hP, hK9⟩ := hB
        rw [ht9] at hP
        rw [hw, Option.bind_some] at hf
        dsimp only at hf
        refine lv_istore (lv' := [(5, .int r41), (0, .ref b), (1, .ref (ad 0)), (2, .ref (ad 33)), (3, .ref (ad 38)), (4, .int x4)]) hx hb d_LW_law_698 hl (by decide) rfl (fun ls hl => ?_)
        refine lv_aload_n hx hb d_LW_law_700 rfl (lv_at hl 3 rfl) ?_
        refine lv_aload_n hx hb d_LW_law_701 rfl (lv_at hl 1 rfl) ?_
        refine lv_iload hx hb d_LW_law_702 (lv_at hl 5 rfl) ?_
        refine lv_iconst (v := 1) hx hb d_LW_law_704 (by decide) ?_
        refine lv_iadd hx hb d_LW_law_705 ?_
        refine va_sld hx hb hX hbl hbA hS b93 d_LW_law_706 ?_
        refine lv_aload_n hx hb d_LW_law_707 rfl (lv_at hl 1 rfl) ?_
        refine lv_iload hx hb d_LW_law_708 (lv_at hl 5 rfl) ?_
        refine lv_iconst (v := 2) hx hb d_LW_law_710 (by decide) ?_
        refine lv_iadd hx hb d_LW_law_711 ?_
        refine va_sld hx hb hX hbl hbA hS b94 d_LW_law_712 ?_
        refine lv_aload_n hx hb d_LW_law_713 rfl (lv_at hl 1 rfl) ?_
        refine lv_iload hx hb d_LW_law_714 (lv_at hl 5 rfl) ?_
        refine lv_iconst (v := 3) hx hb d_LW_law_716 (by decide) ?_
        refine lv_iadd hx hb d_LW_law_717 ?_
        refine va_sld hx hb hX hbl hbA hS b95 d_LW_law_718 ?_
        refine va_calli (va_runV (As := [.int (xs (x4 + (1 : Int32)).toNatClampNeg), .int (xs (x4 + (2 : Int32)).toNatClampNeg), .int (xs (x4 + (3 : Int32)).toNatClampNeg)]) (rest := []) ⟨hx, hb, hml, hown, ht⟩ (c_RM_holds l D cA ad hI H.size (xs (x4 + (1 : Int32)).toNatClampNeg) (xs (x4 + (2 : Int32)).toNatClampNeg) (xs (x4 + (3 : Int32)).toNatClampNeg) u41 (fun hn => hs (by rw [hn] at hf; exact hf.symm))) (cwV 3 ht (good_G (gV mM_LW_108 mI_RM_holds mV_RM_holds mN_RM mk_RM_holds)) rfl rfl rfl (by decide +kernel) ⟨Nat.le_of_ble_eq_true rfl, Nat.le_of_ble_eq_true rfl⟩) ⟨fun a U g mk q => ⟨q.1, q.2.1, q.2.2.1, va_K.moved (u := U) (U := U.calling g mk a) (Vm.Alike.refl U.vm) q.2.2.2⟩, va_recv hK hP (ci := 5) (q0 := 33) rfl Xa_33, fun U hU hW => ⟨rfl, by rw [hU], by rw [hU]; exact hP, va_K.moved hW.alike hK⟩⟩ rfl rfl hl.1 rfl (lv_room (Nat.le_of_ble_eq_true rfl)) d_LW_law_719 ⟨by show _ ≤ 601024; omega, by show _ ≤ 7293000; omega⟩) hS (fun q _ h => hAS _ hS.1 q h) (fun q h => hAS _ hS.1 q h) (fun r42 u42 t H locs ht9 hvm hw hB hz1 hk1 hS => ?_)
        obtain ⟨hP, hK9⟩ := hB
        rw [ht9] at hP
        obtain ⟨hw, hz42⟩ := hw
        rw [hw, Option.bind_some] at hf
        dsimp only at hf
        refine lv_istore (lv' := [(6, .int r42), (5, .int r41), (0, .ref b), (1, .ref (ad 0)), (2, .ref (ad 33)), (3, .ref (ad 38)), (4, .int x4)]) hx hb d_LW_law_722 hl (by decide) rfl (fun ls hl => ?_)
        refine lv_aload_n hx hb d_LW_law_724 rfl (lv_at hl 4 rfl) ?_
        refine va_calli (va_runV (As := []) (rest := []) ⟨hx, hb, hml, hown, ht⟩ (c_RM_thrown l D cA ad hI H.size u42 (fun hn => hs (by rw [hn] at hf; exact hf.symm))) (cwV 0 ht (good_G (gV mM_LW_74 mI_RM_thrown mV_RM_thrown mN_RM mk_RM_thrown)) rfl rfl rfl (by decide +kernel) ⟨Nat.le_of_ble_eq_true rfl, Nat.le_of_ble_eq_true rfl⟩) ⟨fun a U g mk q => ⟨q.1, q.2.1, q.2.2.1, va_K.moved (u := U) (U := U.calling g mk a) (Vm.Alike.refl U.vm) q.2.2.2⟩, va_recv hK hP (ci := 5) (q0 := 33) rfl Xa_33, fun U hU hW => ⟨rfl, by rw [hU], by rw [hU]; exact hP, va_K.moved hW.alike hK⟩⟩ rfl rfl hl.1 rfl (lv_room (Nat.le_of_ble_eq_true rfl)) d_LW_law_725 ⟨by show _ ≤ 601024; omega, by show _ ≤ 7293000; omega⟩) hS (fun q _ h => hAS _ hS.1 q h) (fun q h => hAS _ hS.1 q h) (fun r43 _ t H locs ht9 hvm hw hB hz1 hk1 hS => ?_)
        obtain ⟨hP, hK9⟩ := hB
        rw [ht9] at hP
        rw [hw, Option.bind_some] at hf
        refine lv_iload hx hb d_LW_law_728 (lv_at hl 1 rfl) ?_
        refine lv_icmp_eq (tgt := 735) hx hb d_LW_law_730 (by decide) (fun c96 => ?_) (fun c96 => ?_)
        · rw [if_pos c96] at hf
          refine lv_iload hx hb d_LW_law_735 (lv_at hl 1 rfl) ?_
          refine lv_if_ne (tgt := 759) hx hb d_LW_law_737 (by decide) (fun c97 => ?_) (fun c97 => ?_)
          · rw [if_neg c97] at hf
            refine lv_goto (tgt := 1006) hx hb d_LW_law_759 (by decide) ?_
            refine lv_iinc (v := x4 + 4) (lv' := [(4, .int (x4 + 4)), (6, .int r42), (5, .int r41), (0, .ref b), (1, .ref (ad 0)), (2, .ref (ad 33)), (3, .ref (ad 38))]) hx hb d_LW_law_1006 hl (k := 6) rfl rfl (by decide) rfl (fun ls hl => ?_)
            refine lv_goto (tgt := 43) hx hb d_LW_law_1009 (by decide) ?_
            refine W.widen (k := cb + 3 * (k + 1)) (n := sb + 18 * (k + 1)) (by omega) (by omega) ?_
            exact ih (k + 1) (x4 + 4) u42 _ _ _ (by omega) hP hS (lv_sub hl [3, 4, 5, 6, 0] rfl) (hf.trans h1)
          · rw [if_pos c97] at hf
            refine lv_aload_n hx hb d_LW_law_740 rfl (lv_at hl 5 rfl) ?_
            refine lv_iconst (v := 0) hx hb d_LW_law_741 (by decide) ?_
            by_cases b98 : oob (0 : Int32) 1
            · rw [if_pos b98] at hf; exact absurd hf.symm hs
            rw [if_neg b98] at hf
            refine va_lald (f := u42.2 38) hx hb hK hP 38 1 Xa_38 rfl b98 d_LW_law_742 ?_
            refine lv_iload hx hb d_LW_law_743 (lv_at hl 0 rfl) ?_
            refine lv_if_eq (tgt := 752) hx hb d_LW_law_745 (by decide) (fun c99 => ?_) (fun c99 => ?_)
            · rw [if_pos c99] at hf
              refine lv_lconst (v := 0) hx hb d_LW_law_752 (by decide) ?_
              refine W.lcmp hx hb d_LW_law_753 ?_
              refine lv_if_eq (tgt := 759) hx hb d_LW_law_754 (by decide) (fun c100 => ?_) (fun c100 => ?_)
              · rw [if_pos c100] at hf
                refine lv_goto (tgt := 1006) hx hb d_LW_law_759 (by decide) ?_
                refine lv_iinc (v := x4 + 4) (lv' := [(4, .int (x4 + 4)), (6, .int r42), (5, .int r41), (0, .ref b), (1, .ref (ad 0)), (2, .ref (ad 33)), (3, .ref (ad 38))]) hx hb d_LW_law_1006 hl (k := 6) rfl rfl (by decide) rfl (fun ls hl => ?_)
                refine lv_goto (tgt := 43) hx hb d_LW_law_1009 (by decide) ?_
                refine W.widen (k := cb + 3 * (k + 1)) (n := sb + 18 * (k + 1)) (by omega) (by omega) ?_
                exact ih (k + 1) (x4 + 4) u42 _ _ _ (by omega) hP hS (lv_sub hl [3, 4, 5, 6, 0] rfl) (hf.trans h1)
              · rw [if_neg c100] at hf
                refine lv_iconst (v := 0) hx hb d_LW_law_757 (by decide) ?_
                exact absurd (hf.trans h1) (by decide)
            · rw [if_neg c99] at hf
              refine lv_lconst (v := 1) hx hb d_LW_law_748 (by decide) ?_
              refine lv_goto (tgt := 753) hx hb d_LW_law_749 (by decide) ?_
              refine W.lcmp hx hb d_LW_law_753 ?_
              refine lv_if_eq (tgt := 759) hx hb d_LW_law_754 (by decide) (fun c101 => ?_) (fun c101 => ?_)
              · rw [if_pos c101] at hf
                refine lv_goto (tgt := 1006) hx hb d_LW_law_759 (by decide) ?_
                refine lv_iinc (v := x4 + 4) (lv' := [(4, .int (x4 + 4)), (6, .int r42), (5, .int r41), (0, .ref b), (1, .ref (ad 0)), (2, .ref (ad 33)), (3, .ref (ad 38))]) hx hb d_LW_law_1006 hl (k := 6) rfl rfl (by decide) rfl (fun ls hl => ?_)
                refine lv_goto (tgt := 43) hx hb d_LW_law_1009 (by decide) ?_
                refine W.widen (k := cb + 3 * (k + 1)) (n := sb + 18 * (k + 1)) (by omega) (by omega) ?_
                exact ih (k + 1) (x4 + 4) u42 _ _ _ (by omega) hP hS (lv_sub hl [3, 4, 5, 6, 0] rfl) (hf.trans h1)
              · rw [if_neg c101] at hf
                refine lv_iconst (v := 0) hx hb d_LW_law_757 (by decide) ?_
                exact absurd (hf.trans h1) (by decide)
        · rw [if_neg c96] at hf
          refine lv_iconst (v := 0) hx hb d_LW_law_733 (by decide) ?_
          exact absurd (hf.trans h1) (by decide)
      rw [if_neg s9] at hf
      by_cases s10 : ((xs x4.toNatClampNeg) &&& (15 : Int32)) = 10
      · rw [if_pos s10] at hf
        refine lv_tableIn (off := 703) (tgt := 762) hx hb d_LW_law_59 (by rw [s10]; decide) (by rw [s10]; decide) (by rw [s10]; decide) (by decide) ?_
        skip
        refine lv_aload_n hx hb d_LW_law_762 rfl (lv_at hl 1 rfl) ?_
        refine lv_aload_n hx hb d_LW_law_763 rfl (lv_at hl 0 rfl) ?_
        refine lv_iload hx hb d_LW_law_764 (lv_at hl 4 rfl) ?_
        refine lv_iconst (v := 1) hx hb d_LW_law_766 (by decide) ?_
        refine lv_iadd hx hb d_LW_law_767 ?_
        by_cases b102 : oob (x4 + (1 : Int32)) L
        · rw [if_pos b102] at hf; exact absurd hf.symm hs
        rw [if_neg b102] at hf
        refine va_sld hx hb hX hbl hbA hS b102 d_LW_law_768 ?_
        refine lv_aload_n hx hb d_LW_law_769 rfl (lv_at hl 0 rfl) ?_
        refine lv_iload hx hb d_LW_law_770 (lv_at hl 4 rfl) ?_
        refine lv_iconst (v := 2) hx hb d_LW_law_772 (by decide) ?_
        refine lv_iadd hx hb d_LW_law_773 ?_
        by_cases b103 : oob (x4 + (2 : Int32)) L
        · rw [if_pos b103] at hf; exact absurd hf.symm hs
        rw [if_neg b103] at hf
        refine va_sld hx hb hX hbl hbA hS b103 d_LW_law_774 ?_
        refine lv_aload_n hx hb d_LW_law_775 rfl (lv_at hl 3 rfl) ?_
        refine va_calli (vx_runSW (As := [.ref (ad 0), .int (xs (x4 + (1 : Int32)).toNatClampNeg), .int (xs (x4 + (2 : Int32)).toNatClampNeg), .ref (ad 38)]) (rest := []) ⟨hx, hb, hml, hown, ht⟩ (c_LW_fits l hlt D cA ad hI H.size (xs (x4 + (1 : Int32)).toNatClampNeg) (xs (x4 + (2 : Int32)).toNatClampNeg) S (fun hn => hs (by rw [hn] at hf; exact hf.symm))) (vx_cwSW 4 ht (good_G (gS mM_LW_109 mS_LW_fits mN_LW mk_LW_fits)) rfl rfl rfl (by decide +kernel) ⟨Nat.le_of_ble_eq_true rfl, Nat.le_of_ble_eq_true rfl⟩) ⟨fun a U g mk q => ⟨q.1, q.2.1, q.2.2.1, va_K.moved (u := U) (U := U.calling g mk a) (Vm.Alike.refl U.vm) q.2.2.2.1, ZX.call q.2.2.2.2⟩, fun U hU hW => ⟨rfl, by rw [hU], by rw [hU]; exact hP, va_K.moved hW.alike hK, hZ.to hS (hAS _ hS.1) hU hW⟩⟩ rfl rfl hl.1 rfl (lv_room (Nat.le_of_ble_eq_true rfl)) d_LW_law_776 ⟨by show _ ≤ 601024; omega, by show _ ≤ 7293000; omega⟩) hS (fun q _ h => hAS _ hS.1 q h) (fun q h => hAS _ hS.1 q h) (fun r44 u44 t H locs ht9 hvm hw hB hz1 hk1 hS => ?_)
        obtain ⟨hP, hK9⟩ := hB
        rw [ht9] at hP
        rw [hw, Option.bind_some] at hf
        dsimp only at hf
        refine lv_istore (lv' := [(5, .int r44), (0, .ref b), (1, .ref (ad 0)), (2, .ref (ad 33)), (3, .ref (ad 38)), (4, .int x4)]) hx hb d_LW_law_779 hl (by decide) rfl (fun ls hl => ?_)
        refine lv_aload_n hx hb d_LW_law_781 rfl (lv_at hl 3 rfl) ?_
        refine lv_aload_n hx hb d_LW_law_782 rfl (lv_at hl 1 rfl) ?_
        refine lv_iload hx hb d_LW_law_783 (lv_at hl 5 rfl) ?_
        refine lv_iconst (v := 1) hx hb d_LW_law_785 (by decide) ?_
        refine lv_iadd hx hb d_LW_law_786 ?_
        refine va_sld hx hb hX hbl hbA hS b102 d_LW_law_787 ?_
        refine lv_aload_n hx hb d_LW_law_788 rfl (lv_at hl 1 rfl) ?_
        refine lv_iload hx hb d_LW_law_789 (lv_at hl 5 rfl) ?_
        refine lv_iconst (v := 2) hx hb d_LW_law_791 (by decide) ?_
        refine lv_iadd hx hb d_LW_law_792 ?_
        refine va_sld hx hb hX hbl hbA hS b103 d_LW_law_793 ?_
        refine va_calli (va_runV (As := [.int (xs (x4 + (1 : Int32)).toNatClampNeg), .int (xs (x4 + (2 : Int32)).toNatClampNeg)]) (rest := []) ⟨hx, hb, hml, hown, ht⟩ (c_RM_fits l D cA ad hI H.size (xs (x4 + (1 : Int32)).toNatClampNeg) (xs (x4 + (2 : Int32)).toNatClampNeg) u44 (fun hn => hs (by rw [hn] at hf; exact hf.symm))) (cwV 2 ht (good_G (gV mM_LW_111 mI_RM_fits mV_RM_fits mN_RM mk_RM_fits)) rfl rfl rfl (by decide +kernel) ⟨Nat.le_of_ble_eq_true rfl, Nat.le_of_ble_eq_true rfl⟩) ⟨fun a U g mk q => ⟨q.1, q.2.1, q.2.2.1, va_K.moved (u := U) (U := U.calling g mk a) (Vm.Alike.refl U.vm) q.2.2.2⟩, va_recv hK hP (ci := 5) (q0 := 33) rfl Xa_33, fun U hU hW => ⟨rfl, by rw [hU], by rw [hU]; exact hP, va_K.moved hW.alike hK⟩⟩ rfl rfl hl.1 rfl (lv_room (Nat.le_of_ble_eq_true rfl)) d_LW_law_794 ⟨by show _ ≤ 601024; omega, by show _ ≤ 7293000; omega⟩) hS (fun q _ h => hAS _ hS.1 q h) (fun q h => hAS _ hS.1 q h) (fun r45 u45 t H locs ht9 hvm hw hB hz1 hk1 hS => ?_)
        obtain ⟨hP, hK9⟩ := hB
        rw [ht9] at hP
        obtain ⟨hw, hz45⟩ := hw
        rw [hw, Option.bind_some] at hf
        dsimp only at hf
        refine lv_istore (lv' := [(6, .int r45), (5, .int r44), (0, .ref b), (1, .ref (ad 0)), (2, .ref (ad 33)), (3, .ref (ad 38)), (4, .int x4)]) hx hb d_LW_law_797 hl (by decide) rfl (fun ls hl => ?_)
        refine lv_aload_n hx hb d_LW_law_799 rfl (lv_at hl 4 rfl) ?_
        refine va_calli (va_runV (As := []) (rest := []) ⟨hx, hb, hml, hown, ht⟩ (c_RM_thrown l D cA ad hI H.size u45 (fun hn => hs (by rw [hn] at hf; exact hf.symm))) (cwV 0 ht (good_G (gV mM_LW_74 mI_RM_thrown mV_RM_thrown mN_RM mk_RM_thrown)) rfl rfl rfl (by decide +kernel) ⟨Nat.le_of_ble_eq_true rfl, Nat.le_of_ble_eq_true rfl⟩) ⟨fun a U g mk q => ⟨q.1, q.2.1, q.2.2.1, va_K.moved (u := U) (U := U.calling g mk a) (Vm.Alike.refl U.vm) q.2.2.2⟩, va_recv hK hP (ci := 5) (q0 := 33) rfl Xa_33, fun U hU hW => ⟨rfl, by rw [hU], by rw [hU]; exact hP, va_K.moved hW.alike hK⟩⟩ rfl rfl hl.1 rfl (lv_room (Nat.le_of_ble_eq_true rfl)) d_LW_law_800 ⟨by show _ ≤ 601024; omega, by show _ ≤ 7293000; omega⟩) hS (fun q _ h => hAS _ hS.1 q h) (fun q h => hAS _ hS.1 q h) (fun r46 _ t H locs ht9 hvm hw hB hz1 hk1 hS => ?_)
        obtain ⟨hP, hK9⟩ := hB
        rw [ht9] at hP
        rw [hw, Option.bind_some] at hf
        refine lv_iload hx hb d_LW_law_803 (lv_at hl 1 rfl) ?_
        refine lv_icmp_eq (tgt := 810) hx hb d_LW_law_805 (by decide) (fun c104 => ?_) (fun c104 => ?_)
        · rw [if_pos c104] at hf
          refine lv_iload hx hb d_LW_law_810 (lv_at hl 1 rfl) ?_
          refine lv_if_ne (tgt := 834) hx hb d_LW_law_812 (by decide) (fun c105 => ?_) (fun c105 => ?_)
          · rw [if_neg c105] at hf
            refine lv_goto (tgt := 1006) hx hb d_LW_law_834 (by decide) ?_
            refine lv_iinc (v := x4 + 4) (lv' := [(4, .int (x4 + 4)), (6, .int r45), (5, .int r44), (0, .ref b), (1, .ref (ad 0)), (2, .ref (ad 33)), (3, .ref (ad 38))]) hx hb d_LW_law_1006 hl (k := 6) rfl rfl (by decide) rfl (fun ls hl => ?_)
            refine lv_goto (tgt := 43) hx hb d_LW_law_1009 (by decide) ?_
            refine W.widen (k := cb + 3 * (k + 1)) (n := sb + 18 * (k + 1)) (by omega) (by omega) ?_
            exact ih (k + 1) (x4 + 4) u45 _ _ _ (by omega) hP hS (lv_sub hl [3, 4, 5, 6, 0] rfl) (hf.trans h1)
          · rw [if_pos c105] at hf
            refine lv_aload_n hx hb d_LW_law_815 rfl (lv_at hl 5 rfl) ?_
            refine lv_iconst (v := 0) hx hb d_LW_law_816 (by decide) ?_
            by_cases b106 : oob (0 : Int32) 1
            · rw [if_pos b106] at hf; exact absurd hf.symm hs
            rw [if_neg b106] at hf
            refine va_lald (f := u45.2 38) hx hb hK hP 38 1 Xa_38 rfl b106 d_LW_law_817 ?_
            refine lv_iload hx hb d_LW_law_818 (lv_at hl 0 rfl) ?_
            refine lv_if_eq (tgt := 827) hx hb d_LW_law_820 (by decide) (fun c107 => ?_) (fun c107 => ?_)
            · rw [if_pos c107] at hf
              refine lv_lconst (v := 0) hx hb d_LW_law_827 (by decide) ?_
              refine W.lcmp hx hb d_LW_law_828 ?_
              refine lv_if_eq (tgt := 834) hx hb d_LW_law_829 (by decide) (fun c108 => ?_) (fun c108 => ?_)
              · rw [if_pos c108] at hf
                refine lv_goto (tgt := 1006) hx hb d_LW_law_834 (by decide) ?_
                refine lv_iinc (v := x4 + 4) (lv' := [(4, .int (x4 + 4)), (6, .int r45), (5, .int r44), (0, .ref b), (1, .ref (ad 0)), (2, .ref (ad 33)), (3, .ref (ad 38))]) hx hb d_LW_law_1006 hl (k := 6) rfl rfl (by decide) rfl (fun ls hl => ?_)
                refine lv_goto (tgt := 43) hx hb d_LW_law_1009 (by decide) ?_
                refine W.widen (k := cb + 3 * (k + 1)) (n := sb + 18 * (k + 1)) (by omega) (by omega) ?_
                exact ih (k + 1) (x4 + 4) u45 _ _ _ (by omega) hP hS (lv_sub hl [3, 4, 5, 6, 0] rfl) (hf.trans h1)
              · rw [if_neg c108] at hf
                refine lv_iconst (v := 0) hx hb d_LW_law_832 (by decide) ?_
                exact absurd (hf.trans h1) (by decide)
            · rw [if_neg c107] at hf
              refine lv_lconst (v := 1) hx hb d_LW_law_823 (by decide) ?_
              refine lv_goto (tgt := 828) hx hb d_LW_law_824 (by decide) ?_
              refine W.lcmp hx hb d_LW_law_828 ?_
              refine lv_if_eq (tgt := 834) hx hb d_LW_law_829 (by decide) (fun c109 => ?_) (fun c109 => ?_)
              · rw [if_pos c109] at hf
                refine lv_goto (tgt := 1006) hx hb d_LW_law_834 (by decide) ?_
                refine lv_iinc (v := x4 + 4) (lv' := [(4, .int (x4 + 4)), (6, .int r45), (5, .int r44), (0, .ref b), (1, .ref (ad 0)), (2, .ref (ad 33)), (3, .ref (ad 38))]) hx hb d_LW_law_1006 hl (k := 6) rfl rfl (by decide) rfl (fun ls hl => ?_)
                refine lv_goto (tgt := 43) hx hb d_LW_law_1009 (by decide) ?_
                refine W.widen (k := cb + 3 * (k + 1)) (n := sb + 18 * (k + 1)) (by omega) (by omega) ?_
                exact ih (k + 1) (x4 + 4) u45 _ _ _ (by omega) hP hS (lv_sub hl [3, 4, 5, 6, 0] rfl) (hf.trans h1)
              · rw [if_neg c109] at hf
                refine lv_iconst (v := 0) hx hb d_LW_law_832 (by decide) ?_
                exact absurd (hf.trans h1) (by decide)
        · rw [if_neg c104] at hf
          refine lv_iconst (v := 0) hx hb d_LW_law_808 (by decide) ?_
          exact absurd (hf.trans h1) (by decide)
      rw [if_neg s10] at hf
      by_cases s11 : ((xs x4.toNatClampNeg) &&& (15 : Int32)) = 11
      · rw [if_pos s11] at hf
        refine lv_tableIn (off := 778) (tgt := 837) hx hb d_LW_law_59 (by rw [s11]; decide) (by rw [s11]; decide) (by rw [s11]; decide) (by decide) ?_
        skip
        refine lv_aload_n hx hb d_LW_law_837 rfl (lv_at hl 1 rfl) ?_
        refine va_calli (va_runV (As := []) (rest := []) ⟨hx, hb, hml, hown, ht⟩ (c_MK_wrong l D cA ad hI H.size S (fun hn => hs (by rw [hn] at hf; exact hf.symm))) (cwV 0 ht (good_G (gV mM_LW_112 mI_MK_wrong mV_MK_wrong mN_MK mk_MK_wrong)) rfl rfl rfl (by decide +kernel) ⟨Nat.le_of_ble_eq_true rfl, Nat.le_of_ble_eq_true rfl⟩) ⟨fun a U g mk q => ⟨q.1, q.2.1, q.2.2.1, va_K.moved (u := U) (U := U.calling g mk a) (Vm.Alike.refl U.vm) q.2.2.2⟩, va_recv hK hP (ci := 0) (q0 := 0) rfl Xa_0, fun U hU hW => ⟨rfl, by rw [hU], by rw [hU]; exact hP, va_K.moved hW.alike hK⟩⟩ rfl rfl hl.1 rfl (lv_room (Nat.le_of_ble_eq_true rfl)) d_LW_law_838 ⟨by show _ ≤ 601024; omega, by show _ ≤ 7293000; omega⟩) hS (fun q _ h => hAS _ hS.1 q h) (fun q h => hAS _ hS.1 q h) (fun r47 _ t H locs ht9 hvm hw hB hz1 hk1 hS => ?_)
        obtain ⟨hP, hK9⟩ := hB
        rw [ht9] at hP
        rw [hw, Option.bind_some] at hf
        refine lv_aload_n hx hb d_LW_law_841 rfl (lv_at hl 2 rfl) ?_
        refine va_calli (va_runV (As := []) (rest := [.int r47]) ⟨hx, hb, hml, hown, ht⟩ (c_RM_wrong l D cA ad hI H.size S (fun hn => hs (by rw [hn] at hf; exact hf.symm))) (cwV 0 ht (good_G (gV mM_LW_115 mI_RM_wrong mV_RM_wrong mN_RM mk_RM_wrong)) rfl rfl rfl (by decide +kernel) ⟨Nat.le_of_ble_eq_true rfl, Nat.le_of_ble_eq_true rfl⟩) ⟨fun a U g mk q => ⟨q.1, q.2.1, q.2.2.1, va_K.moved (u := U) (U := U.calling g mk a) (Vm.Alike.refl U.vm) q.2.2.2⟩, va_recv hK hP (ci := 5) (q0 := 33) rfl Xa_33, fun U hU hW => ⟨rfl, by rw [hU], by rw [hU]; exact hP, va_K.moved hW.alike hK⟩⟩ rfl rfl hl.1 rfl (lv_room (Nat.le_of_ble_eq_true rfl)) d_LW_law_842 ⟨by show _ ≤ 601024; omega, by show _ ≤ 7293000; omega⟩) hS (fun q _ h => hAS _ hS.1 q h) (fun q h => hAS _ hS.1 q h) (fun r48 u48 t H locs ht9 hvm hw hB hz1 hk1 hS => ?_)
        obtain ⟨hP, hK9⟩ := hB
        rw [ht9] at hP
        rw [hw, Option.bind_some] at hf
        dsimp only at hf
        refine lv_icmp_eq (tgt := 1006) hx hb d_LW_law_845 (by decide) (fun c110 => ?_) (fun c110 => ?_)
        · rw [if_pos c110] at hf
          refine lv_iinc (v := x4 + 4) (lv' := [(4, .int (x4 + 4)), (0, .ref b), (1, .ref (ad 0)), (2, .ref (ad 33)), (3, .ref (ad 38))]) hx hb d_LW_law_1006 hl (k := 4) rfl rfl (by decide) rfl (fun ls hl => ?_)
          refine lv_goto (tgt := 43) hx hb d_LW_law_1009 (by decide) ?_
          refine W.widen (k := cb + 3 * (k + 1)) (n := sb + 18 * (k + 1)) (by omega) (by omega) ?_
          exact ih (k + 1) (x4 + 4) u48 _ _ _ (by omega) hP hS (lv_sub hl [1, 2, 3, 4, 0] rfl) (hf.trans h1)
        · rw [if_neg c110] at hf
          refine lv_iconst (v := 0) hx hb d_LW_law_848 (by decide) ?_
          exact absurd (hf.trans h1) (by decide)
      rw [if_neg s11] at hf
      by_cases s12 : ((xs x4.toNatClampNeg) &&& (15 : Int32)) = 12
      · rw [if_pos s12] at hf
        refine lv_tableIn (off := 791) (tgt := 850) hx hb d_LW_law_59 (by rw [s12]; decide) (by rw [s12]; decide) (by rw [s12]; decide) (by decide) ?_
        skip
        refine lv_aload_n hx hb d_LW_law_850 rfl (lv_at hl 1 rfl) ?_
        refine lv_aload_n hx hb d_LW_law_851 rfl (lv_at hl 3 rfl) ?_
        refine va_calli (vx_runSW (As := [.ref (ad 0), .ref (ad 38)]) (rest := []) ⟨hx, hb, hml, hown, ht⟩ (c_LW_left l hlt D cA ad hI H.size S (fun hn => hs (by rw [hn] at hf; exact hf.symm))) (vx_cwSW 2 ht (good_G (gS mM_LW_116 mS_LW_left mN_LW mk_LW_left)) rfl rfl rfl (by decide +kernel) ⟨Nat.le_of_ble_eq_true rfl, Nat.le_of_ble_eq_true rfl⟩) ⟨fun a U g mk q => ⟨q.1, q.2.1, q.2.2.1, va_K.moved (u := U) (U := U.calling g mk a) (Vm.Alike.refl U.vm) q.2.2.2.1, ZX.call q.2.2.2.2⟩, fun U hU hW => ⟨rfl, by rw [hU], by rw [hU]; exact hP, va_K.moved hW.alike hK, hZ.to hS (hAS _ hS.1) hU hW⟩⟩ rfl rfl hl.1 rfl (lv_room (Nat.le_of_ble_eq_true rfl)) d_LW_law_852 ⟨by show _ ≤ 601024; omega, by show _ ≤ 7293000; omega⟩) hS (fun q _ h => hAS _ hS.1 q h) (fun q h => hAS _ hS.1 q h) (fun r49 u49 t H locs ht9 hvm hw hB hz1 hk1 hS => ?_)
        obtain ⟨hP, hK9⟩ := hB
        rw [ht9] at hP
        rw [hw, Option.bind_some] at hf
        dsimp only at hf
        refine lv_istore (lv' := [(5, .int r49), (0, .ref b), (1, .ref (ad 0)), (2, .ref (ad 33)), (3, .ref (ad 38)), (4, .int x4)]) hx hb d_LW_law_855 hl (by decide) rfl (fun ls hl => ?_)
        refine lv_aload_n hx hb d_LW_law_857 rfl (lv_at hl 3 rfl) ?_
        refine va_calli (va_runV (As := []) (rest := []) ⟨hx, hb, hml, hown, ht⟩ (c_RM_left l D cA ad hI H.size u49 (fun hn => hs (by rw [hn] at hf; exact hf.symm))) (cwV 0 ht (good_G (gV mM_LW_118 mI_RM_left mV_RM_left mN_RM mk_RM_left)) rfl rfl rfl (by decide +kernel) ⟨Nat.le_of_ble_eq_true rfl, Nat.le_of_ble_eq_true rfl⟩) ⟨fun a U g mk q => ⟨q.1, q.2.1, q.2.2.1, va_K.moved (u := U) (U := U.calling g mk a) (Vm.Alike.refl U.vm) q.2.2.2⟩, va_recv hK hP (ci := 5) (q0 := 33) rfl Xa_33, fun U hU hW => ⟨rfl, by rw [hU], by rw [hU]; exact hP, va_K.moved hW.alike hK⟩⟩ rfl rfl hl.1 rfl (lv_room (Nat.le_of_ble_eq_true rfl)) d_LW_law_858 ⟨by show _ ≤ 601024; omega, by show _ ≤ 7293000; omega⟩) hS (fun q _ h => hAS _ hS.1 q h) (fun q h => hAS _ hS.1 q h) (fun r50 u50 t H locs ht9 hvm hw hB hz1 hk1 hS => ?_)
        obtain ⟨hP, hK9⟩ := hB
        rw [ht9] at hP
        rw [hw, Option.bind_some] at hf
        dsimp only at hf
        refine lv_istore (lv' := [(6, .int r50), (5, .int r49), (0, .ref b), (1, .ref (ad 0)), (2, .ref (ad 33)), (3, .ref (ad 38)), (4, .int x4)]) hx hb d_LW_law_861 hl (by decide) rfl (fun ls hl => ?_)
        refine lv_aload_n hx hb d_LW_law_863 rfl (lv_at hl 4 rfl) ?_
        refine va_calli (va_runV (As := []) (rest := []) ⟨hx, hb, hml, hown, ht⟩ (c_RM_thrown l D cA ad hI H.size u50 (fun hn => hs (by rw [hn] at hf; exact hf.symm))) (cwV 0 ht (good_G (gV mM_LW_74 mI_RM_thrown mV_RM_thrown mN_RM mk_RM_thrown)) rfl rfl rfl (by decide +kernel) ⟨Nat.le_of_ble_eq_true rfl, Nat.le_of_ble_eq_true rfl⟩) ⟨fun a U g mk q => ⟨q.1, q.2.1, q.2.2.1, va_K.moved (u := U) (U := U.calling g mk a) (Vm.Alike.refl U.vm) q.2.2.2⟩, va_recv hK hP (ci := 5) (q0 := 33) rfl Xa_33, fun U hU hW => ⟨rfl, by rw [hU], by rw [hU]; exact hP, va_K.moved hW.alike hK⟩⟩ rfl rfl hl.1 rfl (lv_room (Nat.le_of_ble_eq_true rfl)) d_LW_law_864 ⟨by show _ ≤ 601024; omega, by show _ ≤ 7293000; omega⟩) hS (fun q _ h => hAS _ hS.1 q h) (fun q h => hAS _ hS.1 q h) (fun r51 _ t H locs ht9 hvm hw hB hz1 hk1 hS => ?_)
        obtain ⟨hP, hK9⟩ := hB
        rw [ht9] at hP
        rw [hw, Option.bind_some] at hf
        refine lv_iload hx hb d_LW_law_867 (lv_at hl 1 rfl) ?_
        refine lv_icmp_eq (tgt := 874) hx hb d_LW_law_869 (by decide) (fun c111 => ?_) (fun c111 => ?_)
        · rw [if_pos c111] at hf
          refine lv_iload hx hb d_LW_law_874 (lv_at hl 1 rfl) ?_
          refine lv_if_ne (tgt := 891) hx hb d_LW_law_876 (by decide) (fun c112 => ?_) (fun c112 => ?_)
          · rw [if_neg c112] at hf
            refine lv_goto (tgt := 1006) hx hb d_LW_law_891 (by decide) ?_
            refine lv_iinc (v := x4 + 4) (lv' := [(4, .int (x4 + 4)), (6, .int r50), (5, .int r49), (0, .ref b), (1, .ref (ad 0)), (2, .ref (ad 33)), (3, .ref (ad 38))]) hx hb d_LW_law_1006 hl (k := 6) rfl rfl (by decide) rfl (fun ls hl => ?_)
            refine lv_goto (tgt := 43) hx hb d_LW_law_1009 (by decide) ?_
            refine W.widen (k := cb + 3 * (k + 1)) (n := sb + 18 * (k + 1)) (by omega) (by omega) ?_
            exact ih (k + 1) (x4 + 4) u50 _ _ _ (by omega) hP hS (lv_sub hl [3, 4, 5, 6, 0] rfl) (hf.trans h1)
          · rw [if_pos c112] at hf
            refine lv_aload_n hx hb d_LW_law_879 rfl (lv_at hl 5 rfl) ?_
            refine lv_iconst (v := 0) hx hb d_LW_law_880 (by decide) ?_
            by_cases b113 : oob (0 : Int32) 1
            · rw [if_pos b113] at hf; exact absurd hf.symm hs
            rw [if_neg b113] at hf
            refine va_lald (f := u50.2 38) hx hb hK hP 38 1 Xa_38 rfl b113 d_LW_law_881 ?_
            refine lv_iload hx hb d_LW_law_882 (lv_at hl 0 rfl) ?_
            refine lv_i2l hx hb d_LW_law_884 rfl ?_
            refine W.lcmp hx hb d_LW_law_885 ?_
            refine lv_if_eq (tgt := 891) hx hb d_LW_law_886 (by decide) (fun c114 => ?_) (fun c114 => ?_)
            · rw [if_pos c114] at hf
              refine lv_goto (tgt := 1006) hx hb d_LW_law_891 (by decide) ?_
              refine lv_iinc (v := x4 + 4) (lv' := [(4, .int (x4 + 4)), (6, .int r50), (5, .int r49), (0, .ref b), (1, .ref (ad 0)), (2, .ref (ad 33)), (3, .ref (ad 38))]) hx hb d_LW_law_1006 hl (k := 6) rfl rfl (by decide) rfl (fun ls hl => ?_)
              refine lv_goto (tgt := 43) hx hb d_LW_law_1009 (by decide) ?_
              refine W.widen (k := cb + 3 * (k + 1)) (n := sb + 18 * (k + 1)) (by omega) (by omega) ?_
              exact ih (k + 1) (x4 + 4) u50 _ _ _ (by omega) hP hS (lv_sub hl [3, 4, 5, 6, 0] rfl) (hf.trans h1)
            · rw [if_neg c114] at hf
              refine lv_iconst (v := 0) hx hb d_LW_law_889 (by decide) ?_
              exact absurd (hf.trans h1) (by decide)
        · rw [if_neg c111] at hf
          refine lv_iconst (v := 0) hx hb d_LW_law_872 (by decide) ?_
          exact absurd (hf.trans h1) (by decide)
      rw [if_neg s12] at hf
      by_cases s13 : ((xs x4.toNatClampNeg) &&& (15 : Int32)) = 13
      · rw [if_pos s13] at hf
        refine lv_tableIn (off := 835) (tgt := 894) hx hb d_LW_law_59 (by rw [s13]; decide) (by rw [s13]; decide) (by rw [s13]; decide) (by decide) ?_
        skip
        refine lv_aload_n hx hb d_LW_law_894 rfl (lv_at hl 1 rfl) ?_
        refine lv_aload_n hx hb d_LW_law_895 rfl (lv_at hl 0 rfl) ?_
        refine lv_iload hx hb d_LW_law_896 (lv_at hl 4 rfl) ?_
        refine lv_iconst (v := 1) hx hb d_LW_law_898 (by decide) ?_
        refine lv_iadd hx hb d_LW_law_899 ?_
        by_cases b115 : oob (x4 + (1 : Int32)) L
        · rw [if_pos b115] at hf; exact absurd hf.symm hs
        rw [if_neg b115] at hf
        refine va_sld hx hb hX hbl hbA hS b115 d_LW_law_900 ?_
        refine lv_aload_n hx hb d_LW_law_901 rfl (lv_at hl 3 rfl) ?_
        refine va_calli (vx_runSW (As := [.ref (ad 0), .int (xs (x4 + (1 : Int32)).toNatClampNeg), .ref (ad 38)]) (rest := []) ⟨hx, hb, hml, hown, ht⟩ (c_LW_add l hlt D cA ad hI H.size (xs (x4 + (1 : Int32)).toNatClampNeg) S (fun hn => hs (by rw [hn] at hf; exact hf.symm))) (vx_cwSW 3 ht (good_G (gS mM_LW_119 mS_LW_add mN_LW mk_LW_add)) rfl rfl rfl (by decide +kernel) ⟨Nat.le_of_ble_eq_true rfl, Nat.le_of_ble_eq_true rfl⟩) ⟨fun a U g mk q => ⟨q.1, q.2.1, q.2.2.1, va_K.moved (u := U) (U := U.calling g mk a) (Vm.Alike.refl U.vm) q.2.2.2.1, ZX.call q.2.2.2.2⟩, fun U hU hW => ⟨rfl, by rw [hU], by rw [hU]; exact hP, va_K.moved hW.alike hK, hZ.to hS (hAS _ hS.1) hU hW⟩⟩ rfl rfl hl.1 rfl (lv_room (Nat.le_of_ble_eq_true rfl)) d_LW_law_902 ⟨by show _ ≤ 601024; omega, by show _ ≤ 7293000; omega⟩) hS (fun q _ h => hAS _ hS.1 q h) (fun q h => hAS _ hS.1 q h) (fun r52 u52 t H locs ht9 hvm hw hB hz1 hk1 hS => ?_)
        obtain ⟨hP, hK9⟩ := hB
        rw [ht9] at hP
        rw [hw, Option.bind_some] at hf
        dsimp only at hf
        refine lv_istore (lv' := [(5, .int r52), (0, .ref b), (1, .ref (ad 0)), (2, .ref (ad 33)), (3, .ref (ad 38)), (4, .int x4)]) hx hb d_LW_law_905 hl (by decide) rfl (fun ls hl => ?_)
        refine lv_aload_n hx hb d_LW_law_907 rfl (lv_at hl 3 rfl) ?_
        refine lv_aload_n hx hb d_LW_law_908 rfl (lv_at hl 1 rfl) ?_
        refine lv_iload hx hb d_LW_law_909 (lv_at hl 5 rfl) ?_
        refine lv_iconst (v := 1) hx hb d_LW_law_911 (by decide) ?_
        refine lv_iadd hx hb d_LW_law_912 ?_
        refine va_sld hx hb hX hbl hbA hS b115 d_LW_law_913 ?_
        refine va_calli (va_runV (As := [.int (xs (x4 + (1 : Int32)).toNatClampNeg)]) (rest := []) ⟨hx, hb, hml, hown, ht⟩ (c_RM_add l D cA ad hI H.size (xs (x4 + (1 : Int32)).toNatClampNeg) u52 (fun hn => hs (by rw [hn] at hf; exact hf.symm))) (cwV 1 ht (good_G (gV mM_LW_121 mI_RM_add mV_RM_add mN_RM mk_RM_add)) rfl rfl rfl (by decide +kernel) ⟨Nat.le_of_ble_eq_true rfl, Nat.le_of_ble_eq_true rfl⟩) ⟨fun a U g mk q => ⟨q.1, q.2.1, q.2.2.1, va_K.moved (u := U) (U := U.calling g mk a) (Vm.Alike.refl U.vm) q.2.2.2⟩, va_recv hK hP (ci := 5) (q0 := 33) rfl Xa_33, fun U hU hW => ⟨rfl, by rw [hU], by rw [hU]; exact hP, va_K.moved hW.alike hK⟩⟩ rfl rfl hl.1 rfl (lv_room (Nat.le_of_ble_eq_true rfl)) d_LW_law_914 ⟨by show _ ≤ 601024; omega, by show _ ≤ 7293000; omega⟩) hS (fun q _ h => hAS _ hS.1 q h) (fun q h => hAS _ hS.1 q h) (fun r53 u53 t H locs ht9 hvm hw hB hz1 hk1 hS => ?_)
        obtain ⟨hP, hK9⟩ := hB
        rw [ht9] at hP
        rw [hw, Option.bind_some] at hf
        dsimp only at hf
        refine lv_istore (lv' := [(6, .int r53), (5, .int r52), (0, .ref b), (1, .ref (ad 0)), (2, .ref (ad 33)), (3, .ref (ad 38)), (4, .int x4)]) hx hb d_LW_law_917 hl (by decide) rfl (fun ls hl => ?_)
        refine lv_aload_n hx hb d_LW_law_919 rfl (lv_at hl 4 rfl) ?_
        refine va_calli (va_runV (As := []) (rest := []) ⟨hx, hb, hml, hown, ht⟩ (c_RM_thrown l D cA ad hI H.size u53 (fun hn => hs (by rw [hn] at hf; exact hf.symm))) (cwV 0 ht (good_G (gV mM_LW_74 mI_RM_thrown mV_RM_thrown mN_RM mk_RM_thrown)) rfl rfl rfl (by decide +kernel) ⟨Nat.le_of_ble_eq_true rfl, Nat.le_of_ble_eq_true rfl⟩) ⟨fun a U g mk q => ⟨q.1, q.2.1, q.2.2.1, va_K.moved (u := U) (U := U.calling g mk a) (Vm.Alike.refl U.vm) q.2.2.2⟩, va_recv hK hP (ci := 5) (q0 := 33) rfl Xa_33, fun U hU hW => ⟨rfl, by rw [hU], by rw [hU]; exact hP, va_K.moved hW.alike hK⟩⟩ rfl rfl hl.1 rfl (lv_room (Nat.le_of_ble_eq_true rfl)) d_LW_law_920 ⟨by show _ ≤ 601024; omega, by show _ ≤ 7293000; omega⟩) hS (fun q _ h => hAS _ hS.1 q h) (fun q h => hAS _ hS.1 q h) (fun r54 _ t H locs ht9 hvm hw hB hz1 hk1 hS => ?_)
        obtain ⟨hP, hK9⟩ := hB
        rw [ht9] at hP
        rw [hw, Option.bind_some] at hf
        refine lv_iload hx hb d_LW_law_923 (lv_at hl 1 rfl) ?_
        refine lv_icmp_eq (tgt := 930) hx hb d_LW_law_925 (by decide) (fun c116 => ?_) (fun c116 => ?_)
        · rw [if_pos c116] at hf
          refine lv_iload hx hb d_LW_law_930 (lv_at hl 1 rfl) ?_
          refine lv_if_ne (tgt := 947) hx hb d_LW_law_932 (by decide) (fun c117 => ?_) (fun c117 => ?_)
          · rw [if_neg c117] at hf
            refine lv_goto (tgt := 1006) hx hb d_LW_law_947 (by decide) ?_
            refine lv_iinc (v := x4 + 4) (lv' := [(4, .int (x4 + 4)), (6, .int r53), (5, .int r52), (0, .ref b), (1, .ref (ad 0)), (2, .ref (ad 33)), (3, .ref (ad 38))]) hx hb d_LW_law_1006 hl (k := 6) rfl rfl (by decide) rfl (fun ls hl => ?_)
            refine lv_goto (tgt := 43) hx hb d_LW_law_1009 (by decide) ?_
            refine W.widen (k := cb + 3 * (k + 1)) (n := sb + 18 * (k + 1)) (by omega) (by omega) ?_
            exact ih (k + 1) (x4 + 4) u53 _ _ _ (by omega) hP hS (lv_sub hl [3, 4, 5, 6, 0] rfl) (hf.trans h1)
          · rw [if_pos c117] at hf
            refine lv_aload_n hx hb d_LW_law_935 rfl (lv_at hl 5 rfl) ?_
            refine lv_iconst (v := 0) hx hb d_LW_law_936 (by decide) ?_
            by_cases b118 : oob (0 : Int32) 1
            · rw [if_pos b118] at hf; exact absurd hf.symm hs
            rw [if_neg b118] at hf
            refine va_lald (f := u53.2 38) hx hb hK hP 38 1 Xa_38 rfl b118 d_LW_law_937 ?_
            refine lv_iload hx hb d_LW_law_938 (lv_at hl 0 rfl) ?_
            refine lv_i2l hx hb d_LW_law_940 rfl ?_
            refine W.lcmp hx hb d_LW_law_941 ?_
            refine lv_if_eq (tgt := 947) hx hb d_LW_law_942 (by decide) (fun c119 => ?_) (fun c119 => ?_)
            · rw [if_pos c119] at hf
              refine lv_goto (tgt := 1006) hx hb d_LW_law_947 (by decide) ?_
              refine lv_iinc (v := x4 + 4) (lv' := [(4, .int (x4 + 4)), (6, .int r53), (5, .int r52), (0, .ref b), (1, .ref (ad 0)), (2, .ref (ad 33)), (3, .ref (ad 38))]) hx hb d_LW_law_1006 hl (k := 6) rfl rfl (by decide) rfl (fun ls hl => ?_)
              refine lv_goto (tgt := 43) hx hb d_LW_law_1009 (by decide) ?_
              refine W.widen (k := cb + 3 * (k + 1)) (n := sb + 18 * (k + 1)) (by omega) (by omega) ?_
              exact ih (k + 1) (x4 + 4) u53 _ _ _ (by omega) hP hS (lv_sub hl [3, 4, 5, 6, 0] rfl) (hf.trans h1)
            · rw [if_neg c119] at hf
              refine lv_iconst (v := 0) hx hb d_LW_law_945 (by decide) ?_
              exact absurd (hf.trans h1) (by decide)
        · rw [if_neg c116] at hf
          refine lv_iconst (v := 0) hx hb d_LW_law_928 (by decide) ?_
          exact absurd (hf.trans h1) (by decide)
      rw [if_neg s13] at hf
      by_cases s14 : ((xs x4.toNatClampNeg) &&& (15 : Int32)) = 14
      · rw [if_pos s14] at hf
        refine lv_tableIn (off := 891) (tgt := 950) hx hb d_LW_law_59 (by rw [s14]; decide) (by rw [s14]; decide) (by rw [s14]; decide) (by decide) ?_
        skip
        refine lv_aload_n hx hb d_LW_law_950 rfl (lv_at hl 1 rfl) ?_
        refine lv_aload_n hx hb d_LW_law_951 rfl (lv_at hl 0 rfl) ?_
        refine lv_iload hx hb d_LW_law_952 (lv_at hl 4 rfl) ?_
        refine lv_iconst (v := 1) hx hb d_LW_law_954 (by decide) ?_
        refine lv_iadd hx hb d_LW_law_955 ?_
        by_cases b120 : oob (x4 + (1 : Int32)) L
        · rw [if_pos b120] at hf; exact absurd hf.symm hs
        rw [if_neg b120] at hf
        refine va_sld hx hb hX hbl hbA hS b120 d_LW_law_956 ?_
        refine lv_aload_n hx hb d_LW_law_957 rfl (lv_at hl 3 rfl) ?_
        refine va_calli (vx_runSW (As := [.ref (ad 0), .int (xs (x4 + (1 : Int32)).toNatClampNeg), .ref (ad 38)]) (rest := []) ⟨hx, hb, hml, hown, ht⟩ (c_LW_heirs l hlt D cA ad hI H.size (xs (x4 + (1 : Int32)).toNatClampNeg) S (fun hn => hs (by rw [hn] at hf; exact hf.symm))) (vx_cwSW 3 ht (good_G (gS mM_LW_122 mS_LW_heirs mN_LW mk_LW_heirs)) rfl rfl rfl (by decide +kernel) ⟨Nat.le_of_ble_eq_true rfl, Nat.le_of_ble_eq_true rfl⟩) ⟨fun a U g mk q => ⟨q.1, q.2.1, q.2.2.1, va_K.moved (u := U) (U := U.calling g mk a) (Vm.Alike.refl U.vm) q.2.2.2.1, ZX.call q.2.2.2.2⟩, fun U hU hW => ⟨rfl, by rw [hU], by rw [hU]; exact hP, va_K.moved hW.alike hK, hZ.to hS (hAS _ hS.1) hU hW⟩⟩ rfl rfl hl.1 rfl (lv_room (Nat.le_of_ble_eq_true rfl)) d_LW_law_958 ⟨by show _ ≤ 601024; omega, by show _ ≤ 7293000; omega⟩) hS (fun q _ h => hAS _ hS.1 q h) (fun q h => hAS _ hS.1 q h) (fun r55 u55 t H locs ht9 hvm hw hB hz1 hk1 hS => ?_)
        obtain ⟨hP, hK9⟩ := hB
        rw [ht9] at hP
        rw [hw, Option.bind_some] at hf
        dsimp only at hf
        refine lv_istore (lv' := [(5, .int r55), (0, .ref b), (1, .ref (ad 0)), (2, .ref (ad 33)), (3, .ref (ad 38)), (4, .int x4)]) hx hb d_LW_law_961 hl (by decide) rfl (fun ls hl => ?_)
        refine lv_aload_n hx hb d_LW_law_963 rfl (lv_at hl 3 rfl) ?_
        refine lv_aload_n hx hb d_LW_law_964 rfl (lv_at hl 1 rfl) ?_
        refine lv_iload hx hb d_LW_law_965 (lv_at hl 5 rfl) ?_
        refine lv_iconst (v := 1) hx hb d_LW_law_967 (by decide) ?_
        refine lv_iadd hx hb d_LW_law_968 ?_
        refine va_sld hx hb hX hbl hbA hS b120 d_LW_law_969 ?_
        refine va_calli (va_runV (As := [.int (xs (x4 + (1 : Int32)).toNatClampNeg)]) (rest := []) ⟨hx, hb, hml, hown, ht⟩ (c_RM_heirs l D cA ad hI H.size (xs (x4 + (1 : Int32)).toNatClampNeg) u55 (fun hn => hs (by rw [hn] at hf; exact hf.symm))) (cwV 1 ht (good_G (gV mM_LW_124 mI_RM_heirs mV_RM_heirs mN_RM mk_RM_heirs)) rfl rfl rfl (by decide +kernel) ⟨Nat.le_of_ble_eq_true rfl, Nat.le_of_ble_eq_true rfl⟩) ⟨fun a U g mk q => ⟨q.1, q.2.1, q.2.2.1, va_K.moved (u := U) (U := U.calling g mk a) (Vm.Alike.refl U.vm) q.2.2.2⟩, va_recv hK hP (ci := 5) (q0 := 33) rfl Xa_33, fun U hU hW => ⟨rfl, by rw [hU], by rw [hU]; exact hP, va_K.moved hW.alike hK⟩⟩ rfl rfl hl.1 rfl (lv_room (Nat.le_of_ble_eq_true rfl)) d_LW_law_970 ⟨by show _ ≤ 601024; omega, by show _ ≤ 7293000; omega⟩) hS (fun q _ h => hAS _ hS.1 q h) (fun q h => hAS _ hS.1 q h) (fun r56 u56 t H locs ht9 hvm hw hB hz1 hk1 hS => ?_)
        obtain ⟨hP, hK9⟩ := hB
        rw [ht9] at hP
        rw [hw, Option.bind_some] at hf
        dsimp only at hf
        refine lv_istore (lv' := [(6, .int r56), (5, .int r55), (0, .ref b), (1, .ref (ad 0)), (2, .ref (ad 33)), (3, .ref (ad 38)), (4, .int x4)]) hx hb d_LW_law_973 hl (by decide) rfl (fun ls hl => ?_)
        refine lv_aload_n hx hb d_LW_law_975 rfl (lv_at hl 4 rfl) ?_
        refine va_calli (va_runV (As := []) (rest := []) ⟨hx, hb, hml, hown, ht⟩ (c_RM_thrown l D cA ad hI H.size u56 (fun hn => hs (by rw [hn] at hf; exact hf.symm))) (cwV 0 ht (good_G (gV mM_LW_74 mI_RM_thrown mV_RM_thrown mN_RM mk_RM_thrown)) rfl rfl rfl (by decide +kernel) ⟨Nat.le_of_ble_eq_true rfl, Nat.le_of_ble_eq_true rfl⟩) ⟨fun a U g mk q => ⟨q.1, q.2.1, q.2.2.1, va_K.moved (u := U) (U := U.calling g mk a) (Vm.Alike.refl U.vm) q.2.2.2⟩, va_recv hK hP (ci := 5) (q0 := 33) rfl Xa_33, fun U hU hW => ⟨rfl, by rw [hU], by rw [hU]; exact hP, va_K.moved hW.alike hK⟩⟩ rfl rfl hl.1 rfl (lv_room (Nat.le_of_ble_eq_true rfl)) d_LW_law_976 ⟨by show _ ≤ 601024; omega, by show _ ≤ 7293000; omega⟩) hS (fun q _ h => hAS _ hS.1 q h) (fun q h => hAS _ hS.1 q h) (fun r57 _ t H locs ht9 hvm hw hB hz1 hk1 hS => ?_)
        obtain ⟨hP, hK9⟩ := hB
        rw [ht9] at hP
        rw [hw, Option.bind_some] at hf
        refine lv_iload hx hb d_LW_law_979 (lv_at hl 1 rfl) ?_
        refine lv_icmp_eq (tgt := 986) hx hb d_LW_law_981 (by decide) (fun c121 => ?_) (fun c121 => ?_)
        · rw [if_pos c121] at hf
          refine lv_iload hx hb d_LW_law_986 (lv_at hl 1 rfl) ?_
          refine lv_if_ne (tgt := 1003) hx hb d_LW_law_988 (by decide) (fun c122 => ?_) (fun c122 => ?_)
          · rw [if_neg c122] at hf
            refine lv_goto (tgt := 1006) hx hb d_LW_law_1003 (by decide) ?_
            refine lv_iinc (v := x4 + 4) (lv' := [(4, .int (x4 + 4)), (6, .int r56), (5, .int r55), (0, .ref b), (1, .ref (ad 0)), (2, .ref (ad 33)), (3, .ref (ad 38))]) hx hb d_LW_law_1006 hl (k := 6) rfl rfl (by decide) rfl (fun ls hl => ?_)
            refine lv_goto (tgt := 43) hx hb d_LW_law_1009 (by decide) ?_
            refine W.widen (k := cb + 3 * (k + 1)) (n := sb + 18 * (k + 1)) (by omega) (by omega) ?_
            exact ih (k + 1) (x4 + 4) u56 _ _ _ (by omega) hP hS (lv_sub hl [3, 4, 5, 6, 0] rfl) (hf.trans h1)
          · rw [if_pos c122] at hf
            refine lv_aload_n hx hb d_LW_law_991 rfl (lv_at hl 5 rfl) ?_
            refine lv_iconst (v := 0) hx hb d_LW_law_992 (by decide) ?_
            by_cases b123 : oob (0 : Int32) 1
            · rw [if_pos b123] at hf; exact absurd hf.symm hs
            rw [if_neg b123] at hf
            refine va_lald (f := u56.2 38) hx hb hK hP 38 1 Xa_38 rfl b123 d_LW_law_993 ?_
            refine lv_iload hx hb d_LW_law_994 (lv_at hl 0 rfl) ?_
            refine lv_i2l hx hb d_LW_law_996 rfl ?_
            refine W.lcmp hx hb d_LW_law_997 ?_
            refine lv_if_eq (tgt := 1003) hx hb d_LW_law_998 (by decide) (fun c124 => ?_) (fun c124 => ?_)
            · rw [if_pos c124] at hf
              refine lv_goto (tgt := 1006) hx hb d_LW_law_1003 (by decide) ?_
              refine lv_iinc (v := x4 + 4) (lv' := [(4, .int (x4 + 4)), (6, .int r56), (5, .int r55), (0, .ref b), (1, .ref (ad 0)), (2, .ref (ad 33)), (3, .ref (ad 38))]) hx hb d_LW_law_1006 hl (k := 6) rfl rfl (by decide) rfl (fun ls hl => ?_)
              refine lv_goto (tgt := 43) hx hb d_LW_law_1009 (by decide) ?_
              refine W.widen (k := cb + 3 * (k + 1)) (n := sb + 18 * (k + 1)) (by omega) (by omega) ?_
              exact ih (k + 1) (x4 + 4) u56 _ _ _ (by omega) hP hS (lv_sub hl [3, 4, 5, 6, 0] rfl) (hf.trans h1)
            · rw [if_neg c124] at hf
              refine lv_iconst (v := 0) hx hb d_LW_law_1001 (by decide) ?_
              exact absurd (hf.trans h1) (by decide)
        · rw [if_neg c121] at hf
          refine lv_iconst (v := 0) hx hb d_LW_law_984 (by decide) ?_
          exact absurd (hf.trans h1) (by decide)
      rw [if_neg s14] at hf
      refine lv_tableOut (tgt := 1006) hx hb d_LW_law_59 (by have := lv_neT s0 (a := 0) (by decide); have := lv_neT s1 (a := 1) (by decide); have := lv_neT s2 (a := 2) (by decide); have := lv_neT s3 (a := 3) (by decide); have := lv_neT s4 (a := 4) (by decide); have := lv_neT s5 (a := 5) (by decide); have := lv_neT s6 (a := 6) (by decide); have := lv_neT s7 (a := 7) (by decide); have := lv_neT s8 (a := 8) (by decide); have := lv_neT s9 (a := 9) (by decide); have := lv_neT s10 (a := 10) (by decide); have := lv_neT s11 (a := 11) (by decide); have := lv_neT s12 (a := 12) (by decide); have := lv_neT s13 (a := 13) (by decide); have := lv_neT s14 (a := 14) (by decide); omega) (by decide) ?_
      refine lv_iinc (v := x4 + 4) (lv' := [(4, .int (x4 + 4)), (0, .ref b), (1, .ref (ad 0)), (2, .ref (ad 33)), (3, .ref (ad 38))]) hx hb d_LW_law_1006 hl (k := 4) rfl rfl (by decide) rfl (fun ls hl => ?_)
      refine lv_goto (tgt := 43) hx hb d_LW_law_1009 (by decide) ?_
      refine W.widen (k := cb + 3 * (k + 1)) (n := sb + 18 * (k + 1)) (by omega) (by omega) ?_
      exact ih (k + 1) (x4 + 4) S _ _ _ (by omega) hP hS (lv_sub hl [1, 2, 3, 4, 0] rfl) (hf.trans h1)
