def f_MK_tries (S : SS) : Option (Int32) :=
  some (S.1 3 2)
theorem f_MK_tries_s (S : SS) : f_MK_tries S =
  some (S.1 3 2) := rfl
def f_Board_isWithin (a0 : Int64) (a2 : Int64) (S : SS) : Option (Int32) :=
  if (lg_cmp (a0 &&& (a2 ^^^ (-1 : Int64))) (0 : Int64)) = 0 then some (1 : Int32) else
  some (0 : Int32)
theorem f_Board_isWithin_s (a0 : Int64) (a2 : Int64) (S : SS) : f_Board_isWithin a0 a2 S =
  if (lg_cmp (a0 &&& (a2 ^^^ (-1 : Int64))) (0 : Int64)) = 0 then some (1 : Int32) else
  some (0 : Int32) := rfl
def f_Board_doorsFitted_L5 (y1 : Int64) : Nat → Int32 → Int32 → SS → Option (Int32)
  | 0, _, _, _ => none
  | n + 1, x3, x4, S =>
    if (S.1 2 2) ≤ x4 then some x3 else
    if oob (S.1 2 1) 9 then none else
    if oob x4 6 then none else
    (f_Board_isWithin y1 (S.2 (18 + (S.1 2 1).toNatClampNeg) x4.toNatClampNeg) S).bind fun o3 =>
    if o3 = 0 then f_Board_doorsFitted_L5 y1 n x3 (x4 + 1) S else
    f_Board_doorsFitted_L5 y1 n (x3 ||| ((1 : Int32) <<< (x4 &&& 31))) (x4 + 1) S
theorem f_Board_doorsFitted_L5_s (y1 : Int64) (n : Nat) (x3 : Int32) (x4 : Int32) (S : SS) : f_Board_doorsFitted_L5 y1 (n + 1) x3 x4 S =
    if (S.1 2 2) ≤ x4 then some x3 else
    if oob (S.1 2 1) 9 then none else
    if oob x4 6 then none else
    (f_Board_isWithin y1 (S.2 (18 + (S.1 2 1).toNatClampNeg) x4.toNatClampNeg) S).bind fun o3 =>
    if o3 = 0 then f_Board_doorsFitted_L5 y1 n x3 (x4 + 1) S else
    f_Board_doorsFitted_L5 y1 n (x3 ||| ((1 : Int32) <<< (x4 &&& 31))) (x4 + 1) S := rfl
def f_Board_doorsFitted (a1 : Int64) (S : SS) : Option (Int32) :=
  (f_Board_doorsFitted_L5 a1 FU (0 : Int32) (0 : Int32) S).bind fun v1 =>
  some v1
theorem f_Board_doorsFitted_s (a1 : Int64) (S : SS) : f_Board_doorsFitted a1 S =
  (f_Board_doorsFitted_L5 a1 FU (0 : Int32) (0 : Int32) S).bind fun v1 =>
  some v1 := rfl
def f_Board_doorsOf (a1 : Int32) (S : SS) : Option (Int32) :=
  if oob a1 8 then none else
  (f_Board_doorsFitted (S.2 7 a1.toNatClampNeg) S).bind fun o2 =>
  some o2
theorem f_Board_doorsOf_s (a1 : Int32) (S : SS) : f_Board_doorsOf a1 S =
  if oob a1 8 then none else
  (f_Board_doorsFitted (S.2 7 a1.toNatClampNeg) S).bind fun o2 =>
  some o2 := rfl
def f_JI_bitCount (a0 : Int32) (S : SS) : Option (Int32) :=
  some ((((((((a0 - (((a0.toUInt32 >>> ((1 : Int32).toUInt32 &&& Int32.toUInt32 31)).toInt32) &&& (1431655765 : Int32))) &&& (858993459 : Int32)) + ((((a0 - (((a0.toUInt32 >>> ((1 : Int32).toUInt32 &&& Int32.toUInt32 31)).toInt32) &&& (1431655765 : Int32))).toUInt32 >>> ((2 : Int32).toUInt32 &&& Int32.toUInt32 31)).toInt32) &&& (858993459 : Int32))) + (((((a0 - (((a0.toUInt32 >>> ((1 : Int32).toUInt32 &&& Int32.toUInt32 31)).toInt32) &&& (1431655765 : Int32))) &&& (858993459 : Int32)) + ((((a0 - (((a0.toUInt32 >>> ((1 : Int32).toUInt32 &&& Int32.toUInt32 31)).toInt32) &&& (1431655765 : Int32))).toUInt32 >>> ((2 : Int32).toUInt32 &&& Int32.toUInt32 31)).toInt32) &&& (858993459 : Int32))).toUInt32 >>> ((4 : Int32).toUInt32 &&& Int32.toUInt32 31)).toInt32)) &&& (252645135 : Int32)) + (((((((a0 - (((a0.toUInt32 >>> ((1 : Int32).toUInt32 &&& Int32.toUInt32 31)).toInt32) &&& (1431655765 : Int32))) &&& (858993459 : Int32)) + ((((a0 - (((a0.toUInt32 >>> ((1 : Int32).toUInt32 &&& Int32.toUInt32 31)).toInt32) &&& (1431655765 : Int32))).toUInt32 >>> ((2 : Int32).toUInt32 &&& Int32.toUInt32 31)).toInt32) &&& (858993459 : Int32))) + (((((a0 - (((a0.toUInt32 >>> ((1 : Int32).toUInt32 &&& Int32.toUInt32 31)).toInt32) &&& (1431655765 : Int32))) &&& (858993459 : Int32)) + ((((a0 - (((a0.toUInt32 >>> ((1 : Int32).toUInt32 &&& Int32.toUInt32 31)).toInt32) &&& (1431655765 : Int32))).toUInt32 >>> ((2 : Int32).toUInt32 &&& Int32.toUInt32 31)).toInt32) &&& (858993459 : Int32))).toUInt32 >>> ((4 : Int32).toUInt32 &&& Int32.toUInt32 31)).toInt32)) &&& (252645135 : Int32)).toUInt32 >>> ((8 : Int32).toUInt32 &&& Int32.toUInt32 31)).toInt32)) + ((((((((a0 - (((a0.toUInt32 >>> ((1 : Int32).toUInt32 &&& Int32.toUInt32 31)).toInt32) &&& (1431655765 : Int32))) &&& (858993459 : Int32)) + ((((a0 - (((a0.toUInt32 >>> ((1 : Int32).toUInt32 &&& Int32.toUInt32 31)).toInt32) &&& (1431655765 : Int32))).toUInt32 >>> ((2 : Int32).toUInt32 &&& Int32.toUInt32 31)).toInt32) &&& (858993459 : Int32))) + (((((a0 - (((a0.toUInt32 >>> ((1 : Int32).toUInt32 &&& Int32.toUInt32 31)).toInt32) &&& (1431655765 : Int32))) &&& (858993459 : Int32)) + ((((a0 - (((a0.toUInt32 >>> ((1 : Int32).toUInt32 &&& Int32.toUInt32 31)).toInt32) &&& (1431655765 : Int32))).toUInt32 >>> ((2 : Int32).toUInt32 &&& Int32.toUInt32 31)).toInt32) &&& (858993459 : Int32))).toUInt32 >>> ((4 : Int32).toUInt32 &&& Int32.toUInt32 31)).toInt32)) &&& (252645135 : Int32)) + (((((((a0 - (((a0.toUInt32 >>> ((1 : Int32).toUInt32 &&& Int32.toUInt32 31)).toInt32) &&& (1431655765 : Int32))) &&& (858993459 : Int32)) + ((((a0 - (((a0.toUInt32 >>> ((1 : Int32).toUInt32 &&& Int32.toUInt32 31)).toInt32) &&& (1431655765 : Int32))).toUInt32 >>> ((2 : Int32).toUInt32 &&& Int32.toUInt32 31)).toInt32) &&& (858993459 : Int32))) + (((((a0 - (((a0.toUInt32 >>> ((1 : Int32).toUInt32 &&& Int32.toUInt32 31)).toInt32) &&& (1431655765 : Int32))) &&& (858993459 : Int32)) + ((((a0 - (((a0.toUInt32 >>> ((1 : Int32).toUInt32 &&& Int32.toUInt32 31)).toInt32) &&& (1431655765 : Int32))).toUInt32 >>> ((2 : Int32).toUInt32 &&& Int32.toUInt32 31)).toInt32) &&& (858993459 : Int32))).toUInt32 >>> ((4 : Int32).toUInt32 &&& Int32.toUInt32 31)).toInt32)) &&& (252645135 : Int32)).toUInt32 >>> ((8 : Int32).toUInt32 &&& Int32.toUInt32 31)).toInt32)).toUInt32 >>> ((16 : Int32).toUInt32 &&& Int32.toUInt32 31)).toInt32)) &&& (63 : Int32))
theorem f_JI_bitCount_s (a0 : Int32) (S : SS) : f_JI_bitCount a0 S =
  some ((((((((a0 - (((a0.toUInt32 >>> ((1 : Int32).toUInt32 &&& Int32.toUInt32 31)).toInt32) &&& (1431655765 : Int32))) &&& (858993459 : Int32)) + ((((a0 - (((a0.toUInt32 >>> ((1 : Int32).toUInt32 &&& Int32.toUInt32 31)).toInt32) &&& (1431655765 : Int32))).toUInt32 >>> ((2 : Int32).toUInt32 &&& Int32.toUInt32 31)).toInt32) &&& (858993459 : Int32))) + (((((a0 - (((a0.toUInt32 >>> ((1 : Int32).toUInt32 &&& Int32.toUInt32 31)).toInt32) &&& (1431655765 : Int32))) &&& (858993459 : Int32)) + ((((a0 - (((a0.toUInt32 >>> ((1 : Int32).toUInt32 &&& Int32.toUInt32 31)).toInt32) &&& (1431655765 : Int32))).toUInt32 >>> ((2 : Int32).toUInt32 &&& Int32.toUInt32 31)).toInt32) &&& (858993459 : Int32))).toUInt32 >>> ((4 : Int32).toUInt32 &&& Int32.toUInt32 31)).toInt32)) &&& (252645135 : Int32)) + (((((((a0 - (((a0.toUInt32 >>> ((1 : Int32).toUInt32 &&& Int32.toUInt32 31)).toInt32) &&& (1431655765 : Int32))) &&& (858993459 : Int32)) + ((((a0 - (((a0.toUInt32 >>> ((1 : Int32).toUInt32 &&& Int32.toUInt32 31)).toInt32) &&& (1431655765 : Int32))).toUInt32 >>> ((2 : Int32).toUInt32 &&& Int32.toUInt32 31)).toInt32) &&& (858993459 : Int32))) + (((((a0 - (((a0.toUInt32 >>> ((1 : Int32).toUInt32 &&& Int32.toUInt32 31)).toInt32) &&& (1431655765 : Int32))) &&& (858993459 : Int32)) + ((((a0 - (((a0.toUInt32 >>> ((1 : Int32).toUInt32 &&& Int32.toUInt32 31)).toInt32) &&& (1431655765 : Int32))).toUInt32 >>> ((2 : Int32).toUInt32 &&& Int32.toUInt32 31)).toInt32) &&& (858993459 : Int32))).toUInt32 >>> ((4 : Int32).toUInt32 &&& Int32.toUInt32 31)).toInt32)) &&& (252645135 : Int32)).toUInt32 >>> ((8 : Int32).toUInt32 &&& Int32.toUInt32 31)).toInt32)) + ((((((((a0 - (((a0.toUInt32 >>> ((1 : Int32).toUInt32 &&& Int32.toUInt32 31)).toInt32) &&& (1431655765 : Int32))) &&& (858993459 : Int32)) + ((((a0 - (((a0.toUInt32 >>> ((1 : Int32).toUInt32 &&& Int32.toUInt32 31)).toInt32) &&& (1431655765 : Int32))).toUInt32 >>> ((2 : Int32).toUInt32 &&& Int32.toUInt32 31)).toInt32) &&& (858993459 : Int32))) + (((((a0 - (((a0.toUInt32 >>> ((1 : Int32).toUInt32 &&& Int32.toUInt32 31)).toInt32) &&& (1431655765 : Int32))) &&& (858993459 : Int32)) + ((((a0 - (((a0.toUInt32 >>> ((1 : Int32).toUInt32 &&& Int32.toUInt32 31)).toInt32) &&& (1431655765 : Int32))).toUInt32 >>> ((2 : Int32).toUInt32 &&& Int32.toUInt32 31)).toInt32) &&& (858993459 : Int32))).toUInt32 >>> ((4 : Int32).toUInt32 &&& Int32.toUInt32 31)).toInt32)) &&& (252645135 : Int32)) + (((((((a0 - (((a0.toUInt32 >>> ((1 : Int32).toUInt32 &&& Int32.toUInt32 31)).toInt32) &&& (1431655765 : Int32))) &&& (858993459 : Int32)) + ((((a0 - (((a0.toUInt32 >>> ((1 : Int32).toUInt32 &&& Int32.toUInt32 31)).toInt32) &&& (1431655765 : Int32))).toUInt32 >>> ((2 : Int32).toUInt32 &&& Int32.toUInt32 31)).toInt32) &&& (858993459 : Int32))) + (((((a0 - (((a0.toUInt32 >>> ((1 : Int32).toUInt32 &&& Int32.toUInt32 31)).toInt32) &&& (1431655765 : Int32))) &&& (858993459 : Int32)) + ((((a0 - (((a0.toUInt32 >>> ((1 : Int32).toUInt32 &&& Int32.toUInt32 31)).toInt32) &&& (1431655765 : Int32))).toUInt32 >>> ((2 : Int32).toUInt32 &&& Int32.toUInt32 31)).toInt32) &&& (858993459 : Int32))).toUInt32 >>> ((4 : Int32).toUInt32 &&& Int32.toUInt32 31)).toInt32)) &&& (252645135 : Int32)).toUInt32 >>> ((8 : Int32).toUInt32 &&& Int32.toUInt32 31)).toInt32)).toUInt32 >>> ((16 : Int32).toUInt32 &&& Int32.toUInt32 31)).toInt32)) &&& (63 : Int32)) := rfl
def f_MK_wrong_L13 : Nat → Int32 → Int32 → SS → Option (Int32)
  | 0, _, _, _ => none
  | n + 1, x1, x2, S =>
    if (S.1 2 1) ≤ x2 then some x1 else
    (f_Board_doorsOf x2 S).bind fun o1 =>
    if oob x2 8 then none else
    (f_JI_bitCount (o1 ^^^ (S.1 5 x2.toNatClampNeg)) S).bind fun o3 =>
    f_MK_wrong_L13 n (x1 + o3) (x2 + 1) S
theorem f_MK_wrong_L13_s (n : Nat) (x1 : Int32) (x2 : Int32) (S : SS) : f_MK_wrong_L13 (n + 1) x1 x2 S =
    if (S.1 2 1) ≤ x2 then some x1 else
    (f_Board_doorsOf x2 S).bind fun o1 =>
    if oob x2 8 then none else
    (f_JI_bitCount (o1 ^^^ (S.1 5 x2.toNatClampNeg)) S).bind fun o3 =>
    f_MK_wrong_L13 n (x1 + o3) (x2 + 1) S := rfl
def f_MK_wrong (S : SS) : Option (Int32) :=
  if (S.1 0 4) = 0 then some (-1 : Int32) else
  (f_MK_wrong_L13 FU (0 : Int32) (0 : Int32) S).bind fun v1 =>
  some v1
theorem f_MK_wrong_s (S : SS) : f_MK_wrong S =
  if (S.1 0 4) = 0 then some (-1 : Int32) else
  (f_MK_wrong_L13 FU (0 : Int32) (0 : Int32) S).bind fun v1 =>
  some v1 := rfl
def f_MK_key (S : SS) : Option (Nat ⊕ (Int32 × SS)) :=
  if (S.1 2 1) < (8 : Int32) then some (.inr (((S.1 2 1) + (1 : Int32)) - (1 : Int32), wI (wI S 0 4 (0 : Int32)) 2 1 ((S.1 2 1) + (1 : Int32)))) else
  some (.inl 2)
theorem f_MK_key_s (S : SS) : f_MK_key S =
  if (S.1 2 1) < (8 : Int32) then some (.inr (((S.1 2 1) + (1 : Int32)) - (1 : Int32), wI (wI S 0 4 (0 : Int32)) 2 1 ((S.1 2 1) + (1 : Int32)))) else
  some (.inl 2) := rfl
def f_MK_door (S : SS) : Option (Nat ⊕ (Int32 × SS)) :=
  if (S.1 2 2) < (6 : Int32) then some (.inr (((S.1 2 2) + (1 : Int32)) - (1 : Int32), wI (wI S 0 4 (0 : Int32)) 2 2 ((S.1 2 2) + (1 : Int32)))) else
  some (.inl 2)
theorem f_MK_door_s (S : SS) : f_MK_door S =
  if (S.1 2 2) < (6 : Int32) then some (.inr (((S.1 2 2) + (1 : Int32)) - (1 : Int32), wI (wI S 0 4 (0 : Int32)) 2 2 ((S.1 2 2) + (1 : Int32)))) else
  some (.inl 2) := rfl
def f_MK_needKey (a1 : Int32) (S : SS) : Option (Nat ⊕ Unit) :=
  if a1 < 0 then some (.inl 1) else
  if a1 < (S.1 2 1) then some (.inr ()) else
  some (.inl 1)
theorem f_MK_needKey_s (a1 : Int32) (S : SS) : f_MK_needKey a1 S =
  if a1 < 0 then some (.inl 1) else
  if a1 < (S.1 2 1) then some (.inr ()) else
  some (.inl 1) := rfl
def f_MK_needDoor (a1 : Int32) (S : SS) : Option (Nat ⊕ Unit) :=
  if a1 < 0 then some (.inl 1) else
  if a1 < (S.1 2 2) then some (.inr ()) else
  some (.inl 1)
theorem f_MK_needDoor_s (a1 : Int32) (S : SS) : f_MK_needDoor a1 S =
  if a1 < 0 then some (.inl 1) else
  if a1 < (S.1 2 2) then some (.inr ()) else
  some (.inl 1) := rfl
def f_Board_mustOpen (a1 : Int32) (a2 : Int32) (S : SS) : Option (Int32) :=
  if oob a1 8 then none else
  if (((S.1 5 a1.toNatClampNeg) >>> (a2 &&& 31)) &&& (1 : Int32)) = 0 then some (0 : Int32) else
  some (1 : Int32)
theorem f_Board_mustOpen_s (a1 : Int32) (a2 : Int32) (S : SS) : f_Board_mustOpen a1 a2 S =
  if oob a1 8 then none else
  if (((S.1 5 a1.toNatClampNeg) >>> (a2 &&& 31)) &&& (1 : Int32)) = 0 then some (0 : Int32) else
  some (1 : Int32) := rfl
def f_Board_tell (a1 : Int32) (a2 : Int32) (a3 : Int32) (S : SS) : Option (SS) :=
  if a3 = 0 then
    (if oob a1 8 then none else
    some (wI S 5 a1.toNatClampNeg ((S.1 5 a1.toNatClampNeg) &&& (((1 : Int32) <<< (a2 &&& 31)) ^^^ (-1 : Int32)))))
  else
  if oob a1 8 then none else
  some (wI S 5 a1.toNatClampNeg ((S.1 5 a1.toNatClampNeg) ||| ((1 : Int32) <<< (a2 &&& 31))))
theorem f_Board_tell_s (a1 : Int32) (a2 : Int32) (a3 : Int32) (S : SS) : f_Board_tell a1 a2 a3 S =
  if a3 = 0 then
    (if oob a1 8 then none else
    some (wI S 5 a1.toNatClampNeg ((S.1 5 a1.toNatClampNeg) &&& (((1 : Int32) <<< (a2 &&& 31)) ^^^ (-1 : Int32)))))
  else
  if oob a1 8 then none else
  some (wI S 5 a1.toNatClampNeg ((S.1 5 a1.toNatClampNeg) ||| ((1 : Int32) <<< (a2 &&& 31)))) := rfl
def f_MK_must (a1 : Int32) (a2 : Int32) (a3 : Int32) (S : SS) : Option (Nat ⊕ (Int32 × SS)) :=
  (f_MK_needKey a1 S).bind fun o1 => Sum.elim (fun c6 => some (.inl c6)) (fun o1 =>
  (f_MK_needDoor a2 S).bind fun o2 => Sum.elim (fun c5 => some (.inl c5)) (fun o2 =>
  (f_Board_mustOpen a1 a2 (wI S 0 4 (0 : Int32))).bind fun o3 =>
  (f_Board_tell a1 a2 a3 (wI S 0 4 (0 : Int32))).bind fun o4 =>
  if o3 = 0 ∨ o3 = 1 then some (.inr (o3, o4)) else none) o2) o1
theorem f_MK_must_s (a1 : Int32) (a2 : Int32) (a3 : Int32) (S : SS) : f_MK_must a1 a2 a3 S =
  (f_MK_needKey a1 S).bind fun o1 => Sum.elim (fun c6 => some (.inl c6)) (fun o1 =>
  (f_MK_needDoor a2 S).bind fun o2 => Sum.elim (fun c5 => some (.inl c5)) (fun o2 =>
  (f_Board_mustOpen a1 a2 (wI S 0 4 (0 : Int32))).bind fun o3 =>
  (f_Board_tell a1 a2 a3 (wI S 0 4 (0 : Int32))).bind fun o4 =>
  if o3 = 0 ∨ o3 = 1 then some (.inr (o3, o4)) else none) o2) o1 := rfl
def f_MK_step (a1 : Int32) (S : SS) : Option (Nat ⊕ (Int32 × SS)) :=
  if a1 < 0 then some (.inl 1) else
  if a1 ≤ (7 : Int32) then some (.inr (S.1 1 2, wI (wI S 0 4 (0 : Int32)) 1 2 a1)) else
  some (.inl 1)
theorem f_MK_step_s (a1 : Int32) (S : SS) : f_MK_step a1 S =
  if a1 < 0 then some (.inl 1) else
  if a1 ≤ (7 : Int32) then some (.inr (S.1 1 2, wI (wI S 0 4 (0 : Int32)) 1 2 a1)) else
  some (.inl 1) := rfl
def f_MK_needDepth (a1 : Int32) (S : SS) : Option (Nat ⊕ Unit) :=
  if a1 < 0 then some (.inl 1) else
  if a1 < (S.1 1 1) then some (.inr ()) else
  some (.inl 1)
theorem f_MK_needDepth_s (a1 : Int32) (S : SS) : f_MK_needDepth a1 S =
  if a1 < 0 then some (.inl 1) else
  if a1 < (S.1 1 1) then some (.inr ()) else
  some (.inl 1) := rfl
def f_Law_pairBit (a0 : Int32) (a1 : Int32) (S : SS) : Option (Int64) :=
  some ((1 : Int64) <<< (((a0 * (8 : Int32)) + a1).toInt64 &&& 63))
theorem f_Law_pairBit_s (a0 : Int32) (a1 : Int32) (S : SS) : f_Law_pairBit a0 a1 S =
  some ((1 : Int64) <<< (((a0 * (8 : Int32)) + a1).toInt64 &&& 63)) := rfl
def f_Law_isBarred (a1 : Int32) (a2 : Int32) (S : SS) : Option (Int32) :=
  (f_Law_pairBit a1 a2 S).bind fun o1 =>
  if (lg_cmp ((S.2 1 4) &&& o1) (0 : Int64)) = 0 then some (0 : Int32) else
  some (1 : Int32)
theorem f_Law_isBarred_s (a1 : Int32) (a2 : Int32) (S : SS) : f_Law_isBarred a1 a2 S =
  (f_Law_pairBit a1 a2 S).bind fun o1 =>
  if (lg_cmp ((S.2 1 4) &&& o1) (0 : Int64)) = 0 then some (0 : Int32) else
  some (1 : Int32) := rfl
def f_Law_setBarred (a1 : Int32) (a2 : Int32) (a3 : Int32) (S : SS) : Option (SS) :=
  if a3 = 0 then
    ((f_Law_pairBit a1 a2 S).bind fun o1 =>
    some (wL S 1 4 ((S.2 1 4) &&& (o1 ^^^ (-1 : Int64)))))
  else
  (f_Law_pairBit a1 a2 S).bind fun o2 =>
  some (wL S 1 4 ((S.2 1 4) ||| o2))
theorem f_Law_setBarred_s (a1 : Int32) (a2 : Int32) (a3 : Int32) (S : SS) : f_Law_setBarred a1 a2 a3 S =
  if a3 = 0 then
    ((f_Law_pairBit a1 a2 S).bind fun o1 =>
    some (wL S 1 4 ((S.2 1 4) &&& (o1 ^^^ (-1 : Int64)))))
  else
  (f_Law_pairBit a1 a2 S).bind fun o2 =>
  some (wL S 1 4 ((S.2 1 4) ||| o2)) := rfl
def f_MK_bar (a1 : Int32) (a2 : Int32) (a3 : Int32) (S : SS) : Option (Nat ⊕ (Int32 × SS)) :=
  (f_MK_needDepth a1 S).bind fun o1 => Sum.elim (fun c6 => some (.inl c6)) (fun o1 =>
  (f_MK_needDepth a2 S).bind fun o2 => Sum.elim (fun c5 => some (.inl c5)) (fun o2 =>
  (f_Law_isBarred a1 a2 (wI S 0 4 (0 : Int32))).bind fun o3 =>
  (f_Law_setBarred a1 a2 a3 (wI S 0 4 (0 : Int32))).bind fun o4 =>
  if o3 = 0 ∨ o3 = 1 then some (.inr (o3, o4)) else none) o2) o1
theorem f_MK_bar_s (a1 : Int32) (a2 : Int32) (a3 : Int32) (S : SS) : f_MK_bar a1 a2 a3 S =
  (f_MK_needDepth a1 S).bind fun o1 => Sum.elim (fun c6 => some (.inl c6)) (fun o1 =>
  (f_MK_needDepth a2 S).bind fun o2 => Sum.elim (fun c5 => some (.inl c5)) (fun o2 =>
  (f_Law_isBarred a1 a2 (wI S 0 4 (0 : Int32))).bind fun o3 =>
  (f_Law_setBarred a1 a2 a3 (wI S 0 4 (0 : Int32))).bind fun o4 =>
  if o3 = 0 ∨ o3 = 1 then some (.inr (o3, o4)) else none) o2) o1 := rfl
def f_MK_top (a1 : Int32) (S : SS) : Option (Nat ⊕ (Int32 × SS)) :=
  if a1 < (1 : Int32) then some (.inl 1) else
  if a1 ≤ (8 : Int32) then some (.inr (S.1 1 3, wI (wI S 0 4 (0 : Int32)) 1 3 a1)) else
  some (.inl 1)
theorem f_MK_top_s (a1 : Int32) (S : SS) : f_MK_top a1 S =
  if a1 < (1 : Int32) then some (.inl 1) else
  if a1 ≤ (8 : Int32) then some (.inr (S.1 1 3, wI (wI S 0 4 (0 : Int32)) 1 3 a1)) else
  some (.inl 1) := rfl
def f_Law_mayFollow (a1 : Int32) (a2 : Int32) (S : SS) : Option (Int32) :=
  if (S.1 1 2) < (if 0 ≤ (a2 - a1) then (a2 - a1) else 0 - (a2 - a1)) then some (0 : Int32) else
  (f_Law_isBarred a1 a2 S).bind fun o1 =>
  if o1 = 0 then some (1 : Int32) else
  some (0 : Int32)
theorem f_Law_mayFollow_s (a1 : Int32) (a2 : Int32) (S : SS) : f_Law_mayFollow a1 a2 S =
  if (S.1 1 2) < (if 0 ≤ (a2 - a1) then (a2 - a1) else 0 - (a2 - a1)) then some (0 : Int32) else
  (f_Law_isBarred a1 a2 S).bind fun o1 =>
  if o1 = 0 then some (1 : Int32) else
  some (0 : Int32) := rfl
def f_Board_bit (a0 : Int32) (a1 : Int32) (S : SS) : Option (Int64) :=
  some ((1 : Int64) <<< (((a0 * (8 : Int32)) + a1).toInt64 &&& 63))
theorem f_Board_bit_s (a0 : Int32) (a1 : Int32) (S : SS) : f_Board_bit a0 a1 S =
  some ((1 : Int64) <<< (((a0 * (8 : Int32)) + a1).toInt64 &&& 63)) := rfl
def f_Board_rowFromCuts_L5 (x1 : Int32) : Nat → Int64 → Int32 → SS → Option (Int64)
  | 0, _, _, _ => none
  | n + 1, y2, x4, S =>
    if (S.1 1 0) ≤ x4 then some y2 else
    if oob x1 8 then none else
    if oob x4 6 then none else
    (f_Board_bit x4 (S.1 (10 + x1.toNatClampNeg) x4.toNatClampNeg) S).bind fun o3 =>
    f_Board_rowFromCuts_L5 x1 n (y2 ||| o3) (x4 + 1) S
theorem f_Board_rowFromCuts_L5_s (x1 : Int32) (n : Nat) (y2 : Int64) (x4 : Int32) (S : SS) : f_Board_rowFromCuts_L5 x1 (n + 1) y2 x4 S =
    if (S.1 1 0) ≤ x4 then some y2 else
    if oob x1 8 then none else
    if oob x4 6 then none else
    (f_Board_bit x4 (S.1 (10 + x1.toNatClampNeg) x4.toNatClampNeg) S).bind fun o3 =>
    f_Board_rowFromCuts_L5 x1 n (y2 ||| o3) (x4 + 1) S := rfl
def f_Board_rowFromCuts (a1 : Int32) (S : SS) : Option (Int64) :=
  (f_Board_rowFromCuts_L5 a1 FU (0 : Int64) (0 : Int32) S).bind fun v1 =>
  some v1
theorem f_Board_rowFromCuts_s (a1 : Int32) (S : SS) : f_Board_rowFromCuts a1 S =
  (f_Board_rowFromCuts_L5 a1 FU (0 : Int64) (0 : Int32) S).bind fun v1 =>
  some v1 := rfl
def f_Board_isTaken_L3 (y1 : Int64) (x3 : Int32) : Nat → Int32 → SS → Option (Int32 ⊕ Unit)
  | 0, _, _ => none
  | n + 1, x4, S =>
    if x3 ≤ x4 then some (.inr ()) else
    if oob x4 8 then none else
    if (lg_cmp (S.2 7 x4.toNatClampNeg) y1) = 0 then some (.inl (1 : Int32)) else
    f_Board_isTaken_L3 y1 x3 n (x4 + 1) S
theorem f_Board_isTaken_L3_s (y1 : Int64) (x3 : Int32) (n : Nat) (x4 : Int32) (S : SS) : f_Board_isTaken_L3 y1 x3 (n + 1) x4 S =
    if x3 ≤ x4 then some (.inr ()) else
    if oob x4 8 then none else
    if (lg_cmp (S.2 7 x4.toNatClampNeg) y1) = 0 then some (.inl (1 : Int32)) else
    f_Board_isTaken_L3 y1 x3 n (x4 + 1) S := rfl
def f_Board_isTaken (a1 : Int64) (a3 : Int32) (S : SS) : Option (Int32) :=
  (f_Board_isTaken_L3 a1 a3 FU (0 : Int32) S).bind fun v1 => Sum.elim (fun r2 => some r2) (fun v1 =>
  some (0 : Int32)) v1
theorem f_Board_isTaken_s (a1 : Int64) (a3 : Int32) (S : SS) : f_Board_isTaken a1 a3 S =
  (f_Board_isTaken_L3 a1 a3 FU (0 : Int32) S).bind fun v1 => Sum.elim (fun r2 => some r2) (fun v1 =>
  some (0 : Int32)) v1 := rfl
def f_JL_bitCount (a0 : Int64) (S : SS) : Option (Int32) :=
  some ((((((((((a0 - (((a0.toUInt64 >>> ((1 : Int32).toInt64.toUInt64 &&& Int64.toUInt64 63)).toInt64) &&& (6148914691236517205 : Int64))) &&& (3689348814741910323 : Int64)) + ((((a0 - (((a0.toUInt64 >>> ((1 : Int32).toInt64.toUInt64 &&& Int64.toUInt64 63)).toInt64) &&& (6148914691236517205 : Int64))).toUInt64 >>> ((2 : Int32).toInt64.toUInt64 &&& Int64.toUInt64 63)).toInt64) &&& (3689348814741910323 : Int64))) + (((((a0 - (((a0.toUInt64 >>> ((1 : Int32).toInt64.toUInt64 &&& Int64.toUInt64 63)).toInt64) &&& (6148914691236517205 : Int64))) &&& (3689348814741910323 : Int64)) + ((((a0 - (((a0.toUInt64 >>> ((1 : Int32).toInt64.toUInt64 &&& Int64.toUInt64 63)).toInt64) &&& (6148914691236517205 : Int64))).toUInt64 >>> ((2 : Int32).toInt64.toUInt64 &&& Int64.toUInt64 63)).toInt64) &&& (3689348814741910323 : Int64))).toUInt64 >>> ((4 : Int32).toInt64.toUInt64 &&& Int64.toUInt64 63)).toInt64)) &&& (1085102592571150095 : Int64)) + (((((((a0 - (((a0.toUInt64 >>> ((1 : Int32).toInt64.toUInt64 &&& Int64.toUInt64 63)).toInt64) &&& (6148914691236517205 : Int64))) &&& (3689348814741910323 : Int64)) + ((((a0 - (((a0.toUInt64 >>> ((1 : Int32).toInt64.toUInt64 &&& Int64.toUInt64 63)).toInt64) &&& (6148914691236517205 : Int64))).toUInt64 >>> ((2 : Int32).toInt64.toUInt64 &&& Int64.toUInt64 63)).toInt64) &&& (3689348814741910323 : Int64))) + (((((a0 - (((a0.toUInt64 >>> ((1 : Int32).toInt64.toUInt64 &&& Int64.toUInt64 63)).toInt64) &&& (6148914691236517205 : Int64))) &&& (3689348814741910323 : Int64)) + ((((a0 - (((a0.toUInt64 >>> ((1 : Int32).toInt64.toUInt64 &&& Int64.toUInt64 63)).toInt64) &&& (6148914691236517205 : Int64))).toUInt64 >>> ((2 : Int32).toInt64.toUInt64 &&& Int64.toUInt64 63)).toInt64) &&& (3689348814741910323 : Int64))).toUInt64 >>> ((4 : Int32).toInt64.toUInt64 &&& Int64.toUInt64 63)).toInt64)) &&& (1085102592571150095 : Int64)).toUInt64 >>> ((8 : Int32).toInt64.toUInt64 &&& Int64.toUInt64 63)).toInt64)) + ((((((((a0 - (((a0.toUInt64 >>> ((1 : Int32).toInt64.toUInt64 &&& Int64.toUInt64 63)).toInt64) &&& (6148914691236517205 : Int64))) &&& (3689348814741910323 : Int64)) + ((((a0 - (((a0.toUInt64 >>> ((1 : Int32).toInt64.toUInt64 &&& Int64.toUInt64 63)).toInt64) &&& (6148914691236517205 : Int64))).toUInt64 >>> ((2 : Int32).toInt64.toUInt64 &&& Int64.toUInt64 63)).toInt64) &&& (3689348814741910323 : Int64))) + (((((a0 - (((a0.toUInt64 >>> ((1 : Int32).toInt64.toUInt64 &&& Int64.toUInt64 63)).toInt64) &&& (6148914691236517205 : Int64))) &&& (3689348814741910323 : Int64)) + ((((a0 - (((a0.toUInt64 >>> ((1 : Int32).toInt64.toUInt64 &&& Int64.toUInt64 63)).toInt64) &&& (6148914691236517205 : Int64))).toUInt64 >>> ((2 : Int32).toInt64.toUInt64 &&& Int64.toUInt64 63)).toInt64) &&& (3689348814741910323 : Int64))).toUInt64 >>> ((4 : Int32).toInt64.toUInt64 &&& Int64.toUInt64 63)).toInt64)) &&& (1085102592571150095 : Int64)) + (((((((a0 - (((a0.toUInt64 >>> ((1 : Int32).toInt64.toUInt64 &&& Int64.toUInt64 63)).toInt64) &&& (6148914691236517205 : Int64))) &&& (3689348814741910323 : Int64)) + ((((a0 - (((a0.toUInt64 >>> ((1 : Int32).toInt64.toUInt64 &&& Int64.toUInt64 63)).toInt64) &&& (6148914691236517205 : Int64))).toUInt64 >>> ((2 : Int32).toInt64.toUInt64 &&& Int64.toUInt64 63)).toInt64) &&& (3689348814741910323 : Int64))) + (((((a0 - (((a0.toUInt64 >>> ((1 : Int32).toInt64.toUInt64 &&& Int64.toUInt64 63)).toInt64) &&& (6148914691236517205 : Int64))) &&& (3689348814741910323 : Int64)) + ((((a0 - (((a0.toUInt64 >>> ((1 : Int32).toInt64.toUInt64 &&& Int64.toUInt64 63)).toInt64) &&& (6148914691236517205 : Int64))).toUInt64 >>> ((2 : Int32).toInt64.toUInt64 &&& Int64.toUInt64 63)).toInt64) &&& (3689348814741910323 : Int64))).toUInt64 >>> ((4 : Int32).toInt64.toUInt64 &&& Int64.toUInt64 63)).toInt64)) &&& (1085102592571150095 : Int64)).toUInt64 >>> ((8 : Int32).toInt64.toUInt64 &&& Int64.toUInt64 63)).toInt64)).toUInt64 >>> ((16 : Int32).toInt64.toUInt64 &&& Int64.toUInt64 63)).toInt64)) + (((((((((a0 - (((a0.toUInt64 >>> ((1 : Int32).toInt64.toUInt64 &&& Int64.toUInt64 63)).toInt64) &&& (6148914691236517205 : Int64))) &&& (3689348814741910323 : Int64)) + ((((a0 - (((a0.toUInt64 >>> ((1 : Int32).toInt64.toUInt64 &&& Int64.toUInt64 63)).toInt64) &&& (6148914691236517205 : Int64))).toUInt64 >>> ((2 : Int32).toInt64.toUInt64 &&& Int64.toUInt64 63)).toInt64) &&& (3689348814741910323 : Int64))) + (((((a0 - (((a0.toUInt64 >>> ((1 : Int32).toInt64.toUInt64 &&& Int64.toUInt64 63)).toInt64) &&& (6148914691236517205 : Int64))) &&& (3689348814741910323 : Int64)) + ((((a0 - (((a0.toUInt64 >>> ((1 : Int32).toInt64.toUInt64 &&& Int64.toUInt64 63)).toInt64) &&& (6148914691236517205 : Int64))).toUInt64 >>> ((2 : Int32).toInt64.toUInt64 &&& Int64.toUInt64 63)).toInt64) &&& (3689348814741910323 : Int64))).toUInt64 >>> ((4 : Int32).toInt64.toUInt64 &&& Int64.toUInt64 63)).toInt64)) &&& (1085102592571150095 : Int64)) + (((((((a0 - (((a0.toUInt64 >>> ((1 : Int32).toInt64.toUInt64 &&& Int64.toUInt64 63)).toInt64) &&& (6148914691236517205 : Int64))) &&& (3689348814741910323 : Int64)) + ((((a0 - (((a0.toUInt64 >>> ((1 : Int32).toInt64.toUInt64 &&& Int64.toUInt64 63)).toInt64) &&& (6148914691236517205 : Int64))).toUInt64 >>> ((2 : Int32).toInt64.toUInt64 &&& Int64.toUInt64 63)).toInt64) &&& (3689348814741910323 : Int64))) + (((((a0 - (((a0.toUInt64 >>> ((1 : Int32).toInt64.toUInt64 &&& Int64.toUInt64 63)).toInt64) &&& (6148914691236517205 : Int64))) &&& (3689348814741910323 : Int64)) + ((((a0 - (((a0.toUInt64 >>> ((1 : Int32).toInt64.toUInt64 &&& Int64.toUInt64 63)).toInt64) &&& (6148914691236517205 : Int64))).toUInt64 >>> ((2 : Int32).toInt64.toUInt64 &&& Int64.toUInt64 63)).toInt64) &&& (3689348814741910323 : Int64))).toUInt64 >>> ((4 : Int32).toInt64.toUInt64 &&& Int64.toUInt64 63)).toInt64)) &&& (1085102592571150095 : Int64)).toUInt64 >>> ((8 : Int32).toInt64.toUInt64 &&& Int64.toUInt64 63)).toInt64)) + ((((((((a0 - (((a0.toUInt64 >>> ((1 : Int32).toInt64.toUInt64 &&& Int64.toUInt64 63)).toInt64) &&& (6148914691236517205 : Int64))) &&& (3689348814741910323 : Int64)) + ((((a0 - (((a0.toUInt64 >>> ((1 : Int32).toInt64.toUInt64 &&& Int64.toUInt64 63)).toInt64) &&& (6148914691236517205 : Int64))).toUInt64 >>> ((2 : Int32).toInt64.toUInt64 &&& Int64.toUInt64 63)).toInt64) &&& (3689348814741910323 : Int64))) + (((((a0 - (((a0.toUInt64 >>> ((1 : Int32).toInt64.toUInt64 &&& Int64.toUInt64 63)).toInt64) &&& (6148914691236517205 : Int64))) &&& (3689348814741910323 : Int64)) + ((((a0 - (((a0.toUInt64 >>> ((1 : Int32).toInt64.toUInt64 &&& Int64.toUInt64 63)).toInt64) &&& (6148914691236517205 : Int64))).toUInt64 >>> ((2 : Int32).toInt64.toUInt64 &&& Int64.toUInt64 63)).toInt64) &&& (3689348814741910323 : Int64))).toUInt64 >>> ((4 : Int32).toInt64.toUInt64 &&& Int64.toUInt64 63)).toInt64)) &&& (1085102592571150095 : Int64)) + (((((((a0 - (((a0.toUInt64 >>> ((1 : Int32).toInt64.toUInt64 &&& Int64.toUInt64 63)).toInt64) &&& (6148914691236517205 : Int64))) &&& (3689348814741910323 : Int64)) + ((((a0 - (((a0.toUInt64 >>> ((1 : Int32).toInt64.toUInt64 &&& Int64.toUInt64 63)).toInt64) &&& (6148914691236517205 : Int64))).toUInt64 >>> ((2 : Int32).toInt64.toUInt64 &&& Int64.toUInt64 63)).toInt64) &&& (3689348814741910323 : Int64))) + (((((a0 - (((a0.toUInt64 >>> ((1 : Int32).toInt64.toUInt64 &&& Int64.toUInt64 63)).toInt64) &&& (6148914691236517205 : Int64))) &&& (3689348814741910323 : Int64)) + ((((a0 - (((a0.toUInt64 >>> ((1 : Int32).toInt64.toUInt64 &&& Int64.toUInt64 63)).toInt64) &&& (6148914691236517205 : Int64))).toUInt64 >>> ((2 : Int32).toInt64.toUInt64 &&& Int64.toUInt64 63)).toInt64) &&& (3689348814741910323 : Int64))).toUInt64 >>> ((4 : Int32).toInt64.toUInt64 &&& Int64.toUInt64 63)).toInt64)) &&& (1085102592571150095 : Int64)).toUInt64 >>> ((8 : Int32).toInt64.toUInt64 &&& Int64.toUInt64 63)).toInt64)).toUInt64 >>> ((16 : Int32).toInt64.toUInt64 &&& Int64.toUInt64 63)).toInt64)).toUInt64 >>> ((32 : Int32).toInt64.toUInt64 &&& Int64.toUInt64 63)).toInt64)).toInt32) &&& (127 : Int32))
theorem f_JL_bitCount_s (a0 : Int64) (S : SS) : f_JL_bitCount a0 S =
  some ((((((((((a0 - (((a0.toUInt64 >>> ((1 : Int32).toInt64.toUInt64 &&& Int64.toUInt64 63)).toInt64) &&& (6148914691236517205 : Int64))) &&& (3689348814741910323 : Int64)) + ((((a0 - (((a0.toUInt64 >>> ((1 : Int32).toInt64.toUInt64 &&& Int64.toUInt64 63)).toInt64) &&& (6148914691236517205 : Int64))).toUInt64 >>> ((2 : Int32).toInt64.toUInt64 &&& Int64.toUInt64 63)).toInt64) &&& (3689348814741910323 : Int64))) + (((((a0 - (((a0.toUInt64 >>> ((1 : Int32).toInt64.toUInt64 &&& Int64.toUInt64 63)).toInt64) &&& (6148914691236517205 : Int64))) &&& (3689348814741910323 : Int64)) + ((((a0 - (((a0.toUInt64 >>> ((1 : Int32).toInt64.toUInt64 &&& Int64.toUInt64 63)).toInt64) &&& (6148914691236517205 : Int64))).toUInt64 >>> ((2 : Int32).toInt64.toUInt64 &&& Int64.toUInt64 63)).toInt64) &&& (3689348814741910323 : Int64))).toUInt64 >>> ((4 : Int32).toInt64.toUInt64 &&& Int64.toUInt64 63)).toInt64)) &&& (1085102592571150095 : Int64)) + (((((((a0 - (((a0.toUInt64 >>> ((1 : Int32).toInt64.toUInt64 &&& Int64.toUInt64 63)).toInt64) &&& (6148914691236517205 : Int64))) &&& (3689348814741910323 : Int64)) + ((((a0 - (((a0.toUInt64 >>> ((1 : Int32).toInt64.toUInt64 &&& Int64.toUInt64 63)).toInt64) &&& (6148914691236517205 : Int64))).toUInt64 >>> ((2 : Int32).toInt64.toUInt64 &&& Int64.toUInt64 63)).toInt64) &&& (3689348814741910323 : Int64))) + (((((a0 - (((a0.toUInt64 >>> ((1 : Int32).toInt64.toUInt64 &&& Int64.toUInt64 63)).toInt64) &&& (6148914691236517205 : Int64))) &&& (3689348814741910323 : Int64)) + ((((a0 - (((a0.toUInt64 >>> ((1 : Int32).toInt64.toUInt64 &&& Int64.toUInt64 63)).toInt64) &&& (6148914691236517205 : Int64))).toUInt64 >>> ((2 : Int32).toInt64.toUInt64 &&& Int64.toUInt64 63)).toInt64) &&& (3689348814741910323 : Int64))).toUInt64 >>> ((4 : Int32).toInt64.toUInt64 &&& Int64.toUInt64 63)).toInt64)) &&& (1085102592571150095 : Int64)).toUInt64 >>> ((8 : Int32).toInt64.toUInt64 &&& Int64.toUInt64 63)).toInt64)) + ((((((((a0 - (((a0.toUInt64 >>> ((1 : Int32).toInt64.toUInt64 &&& Int64.toUInt64 63)).toInt64) &&& (6148914691236517205 : Int64))) &&& (3689348814741910323 : Int64)) + ((((a0 - (((a0.toUInt64 >>> ((1 : Int32).toInt64.toUInt64 &&& Int64.toUInt64 63)).toInt64) &&& (6148914691236517205 : Int64))).toUInt64 >>> ((2 : Int32).toInt64.toUInt64 &&& Int64.toUInt64 63)).toInt64) &&& (3689348814741910323 : Int64))) + (((((a0 - (((a0.toUInt64 >>> ((1 : Int32).toInt64.toUInt64 &&& Int64.toUInt64 63)).toInt64) &&& (6148914691236517205 : Int64))) &&& (3689348814741910323 : Int64)) + ((((a0 - (((a0.toUInt64 >>> ((1 : Int32).toInt64.toUInt64 &&& Int64.toUInt64 63)).toInt64) &&& (6148914691236517205 : Int64))).toUInt64 >>> ((2 : Int32).toInt64.toUInt64 &&& Int64.toUInt64 63)).toInt64) &&& (3689348814741910323 : Int64))).toUInt64 >>> ((4 : Int32).toInt64.toUInt64 &&& Int64.toUInt64 63)).toInt64)) &&& (1085102592571150095 : Int64)) + (((((((a0 - (((a0.toUInt64 >>> ((1 : Int32).toInt64.toUInt64 &&& Int64.toUInt64 63)).toInt64) &&& (6148914691236517205 : Int64))) &&& (3689348814741910323 : Int64)) + ((((a0 - (((a0.toUInt64 >>> ((1 : Int32).toInt64.toUInt64 &&& Int64.toUInt64 63)).toInt64) &&& (6148914691236517205 : Int64))).toUInt64 >>> ((2 : Int32).toInt64.toUInt64 &&& Int64.toUInt64 63)).toInt64) &&& (3689348814741910323 : Int64))) + (((((a0 - (((a0.toUInt64 >>> ((1 : Int32).toInt64.toUInt64 &&& Int64.toUInt64 63)).toInt64) &&& (6148914691236517205 : Int64))) &&& (3689348814741910323 : Int64)) + ((((a0 - (((a0.toUInt64 >>> ((1 : Int32).toInt64.toUInt64 &&& Int64.toUInt64 63)).toInt64) &&& (6148914691236517205 : Int64))).toUInt64 >>> ((2 : Int32).toInt64.toUInt64 &&& Int64.toUInt64 63)).toInt64) &&& (3689348814741910323 : Int64))).toUInt64 >>> ((4 : Int32).toInt64.toUInt64 &&& Int64.toUInt64 63)).toInt64)) &&& (1085102592571150095 : Int64)).toUInt64 >>> ((8 : Int32).toInt64.toUInt64 &&& Int64.toUInt64 63)).toInt64)).toUInt64 >>> ((16 : Int32).toInt64.toUInt64 &&& Int64.toUInt64 63)).toInt64)) + (((((((((a0 - (((a0.toUInt64 >>> ((1 : Int32).toInt64.toUInt64 &&& Int64.toUInt64 63)).toInt64) &&& (6148914691236517205 : Int64))) &&& (3689348814741910323 : Int64)) + ((((a0 - (((a0.toUInt64 >>> ((1 : Int32).toInt64.toUInt64 &&& Int64.toUInt64 63)).toInt64) &&& (6148914691236517205 : Int64))).toUInt64 >>> ((2 : Int32).toInt64.toUInt64 &&& Int64.toUInt64 63)).toInt64) &&& (3689348814741910323 : Int64))) + (((((a0 - (((a0.toUInt64 >>> ((1 : Int32).toInt64.toUInt64 &&& Int64.toUInt64 63)).toInt64) &&& (6148914691236517205 : Int64))) &&& (3689348814741910323 : Int64)) + ((((a0 - (((a0.toUInt64 >>> ((1 : Int32).toInt64.toUInt64 &&& Int64.toUInt64 63)).toInt64) &&& (6148914691236517205 : Int64))).toUInt64 >>> ((2 : Int32).toInt64.toUInt64 &&& Int64.toUInt64 63)).toInt64) &&& (3689348814741910323 : Int64))).toUInt64 >>> ((4 : Int32).toInt64.toUInt64 &&& Int64.toUInt64 63)).toInt64)) &&& (1085102592571150095 : Int64)) + (((((((a0 - (((a0.toUInt64 >>> ((1 : Int32).toInt64.toUInt64 &&& Int64.toUInt64 63)).toInt64) &&& (6148914691236517205 : Int64))) &&& (3689348814741910323 : Int64)) + ((((a0 - (((a0.toUInt64 >>> ((1 : Int32).toInt64.toUInt64 &&& Int64.toUInt64 63)).toInt64) &&& (6148914691236517205 : Int64))).toUInt64 >>> ((2 : Int32).toInt64.toUInt64 &&& Int64.toUInt64 63)).toInt64) &&& (3689348814741910323 : Int64))) + (((((a0 - (((a0.toUInt64 >>> ((1 : Int32).toInt64.toUInt64 &&& Int64.toUInt64 63)).toInt64) &&& (6148914691236517205 : Int64))) &&& (3689348814741910323 : Int64)) + ((((a0 - (((a0.toUInt64 >>> ((1 : Int32).toInt64.toUInt64 &&& Int64.toUInt64 63)).toInt64) &&& (6148914691236517205 : Int64))).toUInt64 >>> ((2 : Int32).toInt64.toUInt64 &&& Int64.toUInt64 63)).toInt64) &&& (3689348814741910323 : Int64))).toUInt64 >>> ((4 : Int32).toInt64.toUInt64 &&& Int64.toUInt64 63)).toInt64)) &&& (1085102592571150095 : Int64)).toUInt64 >>> ((8 : Int32).toInt64.toUInt64 &&& Int64.toUInt64 63)).toInt64)) + ((((((((a0 - (((a0.toUInt64 >>> ((1 : Int32).toInt64.toUInt64 &&& Int64.toUInt64 63)).toInt64) &&& (6148914691236517205 : Int64))) &&& (3689348814741910323 : Int64)) + ((((a0 - (((a0.toUInt64 >>> ((1 : Int32).toInt64.toUInt64 &&& Int64.toUInt64 63)).toInt64) &&& (6148914691236517205 : Int64))).toUInt64 >>> ((2 : Int32).toInt64.toUInt64 &&& Int64.toUInt64 63)).toInt64) &&& (3689348814741910323 : Int64))) + (((((a0 - (((a0.toUInt64 >>> ((1 : Int32).toInt64.toUInt64 &&& Int64.toUInt64 63)).toInt64) &&& (6148914691236517205 : Int64))) &&& (3689348814741910323 : Int64)) + ((((a0 - (((a0.toUInt64 >>> ((1 : Int32).toInt64.toUInt64 &&& Int64.toUInt64 63)).toInt64) &&& (6148914691236517205 : Int64))).toUInt64 >>> ((2 : Int32).toInt64.toUInt64 &&& Int64.toUInt64 63)).toInt64) &&& (3689348814741910323 : Int64))).toUInt64 >>> ((4 : Int32).toInt64.toUInt64 &&& Int64.toUInt64 63)).toInt64)) &&& (1085102592571150095 : Int64)) + (((((((a0 - (((a0.toUInt64 >>> ((1 : Int32).toInt64.toUInt64 &&& Int64.toUInt64 63)).toInt64) &&& (6148914691236517205 : Int64))) &&& (3689348814741910323 : Int64)) + ((((a0 - (((a0.toUInt64 >>> ((1 : Int32).toInt64.toUInt64 &&& Int64.toUInt64 63)).toInt64) &&& (6148914691236517205 : Int64))).toUInt64 >>> ((2 : Int32).toInt64.toUInt64 &&& Int64.toUInt64 63)).toInt64) &&& (3689348814741910323 : Int64))) + (((((a0 - (((a0.toUInt64 >>> ((1 : Int32).toInt64.toUInt64 &&& Int64.toUInt64 63)).toInt64) &&& (6148914691236517205 : Int64))) &&& (3689348814741910323 : Int64)) + ((((a0 - (((a0.toUInt64 >>> ((1 : Int32).toInt64.toUInt64 &&& Int64.toUInt64 63)).toInt64) &&& (6148914691236517205 : Int64))).toUInt64 >>> ((2 : Int32).toInt64.toUInt64 &&& Int64.toUInt64 63)).toInt64) &&& (3689348814741910323 : Int64))).toUInt64 >>> ((4 : Int32).toInt64.toUInt64 &&& Int64.toUInt64 63)).toInt64)) &&& (1085102592571150095 : Int64)).toUInt64 >>> ((8 : Int32).toInt64.toUInt64 &&& Int64.toUInt64 63)).toInt64)).toUInt64 >>> ((16 : Int32).toInt64.toUInt64 &&& Int64.toUInt64 63)).toInt64)).toUInt64 >>> ((32 : Int32).toInt64.toUInt64 &&& Int64.toUInt64 63)).toInt64)).toInt32) &&& (127 : Int32)) := rfl
def f_Board_isAboveTop_L2 (y1 : Int64) : Nat → Int32 → SS → Option (Int32 ⊕ Unit)
  | 0, _, _ => none
  | n + 1, x3, S =>
    if (S.1 1 0) ≤ x3 then some (.inr ()) else
    (f_JL_bitCount (((y1.toUInt64 >>> ((x3 * (8 : Int32)).toInt64.toUInt64 &&& Int64.toUInt64 63)).toInt64) &&& (255 : Int64)) S).bind fun o1 =>
    if o1 ≤ (S.1 1 3) then f_Board_isAboveTop_L2 y1 n (x3 + 1) S else
    some (.inl (1 : Int32))
theorem f_Board_isAboveTop_L2_s (y1 : Int64) (n : Nat) (x3 : Int32) (S : SS) : f_Board_isAboveTop_L2 y1 (n + 1) x3 S =
    if (S.1 1 0) ≤ x3 then some (.inr ()) else
    (f_JL_bitCount (((y1.toUInt64 >>> ((x3 * (8 : Int32)).toInt64.toUInt64 &&& Int64.toUInt64 63)).toInt64) &&& (255 : Int64)) S).bind fun o1 =>
    if o1 ≤ (S.1 1 3) then f_Board_isAboveTop_L2 y1 n (x3 + 1) S else
    some (.inl (1 : Int32)) := rfl
def f_Board_isAboveTop (a1 : Int64) (S : SS) : Option (Int32) :=
  (f_Board_isAboveTop_L2 a1 FU (0 : Int32) S).bind fun v1 => Sum.elim (fun r2 => some r2) (fun v1 =>
  some (0 : Int32)) v1
theorem f_Board_isAboveTop_s (a1 : Int64) (S : SS) : f_Board_isAboveTop a1 S =
  (f_Board_isAboveTop_L2 a1 FU (0 : Int32) S).bind fun v1 => Sum.elim (fun r2 => some r2) (fun v1 =>
  some (0 : Int32)) v1 := rfl
def f_Board_strangerFits_L3 (y1 : Int64) (x3 : Int32) (x4 : Int32) : Nat → Int32 → SS → Option (Int32 ⊕ Unit)
  | 0, _, _ => none
  | n + 1, x5, S =>
    if x4 ≤ x5 then some (.inr ()) else
    (f_Board_mustOpen x5 x3 S).bind fun o1 =>
    if o1 = 0 then
      (if oob x5 8 then none else
      (f_Board_isWithin (S.2 7 x5.toNatClampNeg) y1 S).bind fun o3 =>
      if o3 = 0 then f_Board_strangerFits_L3 y1 x3 x4 n (x5 + 1) S else
      some (.inl (1 : Int32)))
    else
    f_Board_strangerFits_L3 y1 x3 x4 n (x5 + 1) S
theorem f_Board_strangerFits_L3_s (y1 : Int64) (x3 : Int32) (x4 : Int32) (n : Nat) (x5 : Int32) (S : SS) : f_Board_strangerFits_L3 y1 x3 x4 (n + 1) x5 S =
    if x4 ≤ x5 then some (.inr ()) else
    (f_Board_mustOpen x5 x3 S).bind fun o1 =>
    if o1 = 0 then
      (if oob x5 8 then none else
      (f_Board_isWithin (S.2 7 x5.toNatClampNeg) y1 S).bind fun o3 =>
      if o3 = 0 then f_Board_strangerFits_L3 y1 x3 x4 n (x5 + 1) S else
      some (.inl (1 : Int32)))
    else
    f_Board_strangerFits_L3 y1 x3 x4 n (x5 + 1) S := rfl
def f_Board_strangerFits (a1 : Int64) (a3 : Int32) (a4 : Int32) (S : SS) : Option (Int32) :=
  (f_Board_strangerFits_L3 a1 a3 a4 FU (0 : Int32) S).bind fun v1 => Sum.elim (fun r2 => some r2) (fun v1 =>
  some (0 : Int32)) v1
theorem f_Board_strangerFits_s (a1 : Int64) (a3 : Int32) (a4 : Int32) (S : SS) : f_Board_strangerFits a1 a3 a4 S =
  (f_Board_strangerFits_L3 a1 a3 a4 FU (0 : Int32) S).bind fun v1 => Sum.elim (fun r2 => some r2) (fun v1 =>
  some (0 : Int32)) v1 := rfl
def f_Board_doorAccepts (a1 : Int32) (a2 : Int32) (S : SS) : Option (Int32 × SS) :=
  if oob a2 8 then none else
  if oob a2 9 then none else
  if oob a1 6 then none else
  (f_Board_mustOpen a2 a1 S).bind fun o4 =>
  if o4 = 0 then
    ((f_Board_isWithin (S.2 7 a2.toNatClampNeg) (S.2 (18 + a2.toNatClampNeg) a1.toNatClampNeg) S).bind fun o5 =>
    if o5 = 0 then
      (if oob (a2 + (1 : Int32)) 9 then none else
      some ((1 : Int32), wL S (18 + (a2 + (1 : Int32)).toNatClampNeg) a1.toNatClampNeg (S.2 (18 + a2.toNatClampNeg) a1.toNatClampNeg)))
    else
    some ((0 : Int32), S))
  else
  (f_Board_isAboveTop ((S.2 (18 + a2.toNatClampNeg) a1.toNatClampNeg) ||| (S.2 7 a2.toNatClampNeg)) S).bind fun o7 =>
  if o7 = 0 then
    ((f_Board_strangerFits ((S.2 (18 + a2.toNatClampNeg) a1.toNatClampNeg) ||| (S.2 7 a2.toNatClampNeg)) a1 a2 S).bind fun o8 =>
    if o8 = 0 then
      (if oob (a2 + (1 : Int32)) 9 then none else
      some ((1 : Int32), wL S (18 + (a2 + (1 : Int32)).toNatClampNeg) a1.toNatClampNeg ((S.2 (18 + a2.toNatClampNeg) a1.toNatClampNeg) ||| (S.2 7 a2.toNatClampNeg))))
    else
    some ((0 : Int32), S))
  else
  some ((0 : Int32), S)
theorem f_Board_doorAccepts_s (a1 : Int32) (a2 : Int32) (S : SS) : f_Board_doorAccepts a1 a2 S =
  if oob a2 8 then none else
  if oob a2 9 then none else
  if oob a1 6 then none else
  (f_Board_mustOpen a2 a1 S).bind fun o4 =>
  if o4 = 0 then
    ((f_Board_isWithin (S.2 7 a2.toNatClampNeg) (S.2 (18 + a2.toNatClampNeg) a1.toNatClampNeg) S).bind fun o5 =>
    if o5 = 0 then
      (if oob (a2 + (1 : Int32)) 9 then none else
      some ((1 : Int32), wL S (18 + (a2 + (1 : Int32)).toNatClampNeg) a1.toNatClampNeg (S.2 (18 + a2.toNatClampNeg) a1.toNatClampNeg)))
    else
    some ((0 : Int32), S))
  else
  (f_Board_isAboveTop ((S.2 (18 + a2.toNatClampNeg) a1.toNatClampNeg) ||| (S.2 7 a2.toNatClampNeg)) S).bind fun o7 =>
  if o7 = 0 then
    ((f_Board_strangerFits ((S.2 (18 + a2.toNatClampNeg) a1.toNatClampNeg) ||| (S.2 7 a2.toNatClampNeg)) a1 a2 S).bind fun o8 =>
    if o8 = 0 then
      (if oob (a2 + (1 : Int32)) 9 then none else
      some ((1 : Int32), wL S (18 + (a2 + (1 : Int32)).toNatClampNeg) a1.toNatClampNeg ((S.2 (18 + a2.toNatClampNeg) a1.toNatClampNeg) ||| (S.2 7 a2.toNatClampNeg))))
    else
    some ((0 : Int32), S))
  else
  some ((0 : Int32), S) := rfl
def f_Board_accepts_L27 (x1 : Int32) : Nat → Int32 → SS → Option ((Int32 × SS) ⊕ SS)
  | 0, _, _ => none
  | n + 1, x4, S =>
    if (S.1 2 2) ≤ x4 then some (.inr S) else
    (f_Board_doorAccepts x4 x1 S).bind fun o1 =>
    if o1.1 = 0 then some (.inl ((0 : Int32), o1.2)) else
    f_Board_accepts_L27 x1 n (x4 + 1) o1.2
theorem f_Board_accepts_L27_s (x1 : Int32) (n : Nat) (x4 : Int32) (S : SS) : f_Board_accepts_L27 x1 (n + 1) x4 S =
    if (S.1 2 2) ≤ x4 then some (.inr S) else
    (f_Board_doorAccepts x4 x1 S).bind fun o1 =>
    if o1.1 = 0 then some (.inl ((0 : Int32), o1.2)) else
    f_Board_accepts_L27 x1 n (x4 + 1) o1.2 := rfl
def f_Board_accepts (a1 : Int32) (S : SS) : Option (Int32 × SS) :=
  (f_Board_rowFromCuts a1 S).bind fun o1 =>
  (f_Board_isTaken o1 a1 S).bind fun o2 =>
  if o2 = 0 then
    (if oob a1 8 then none else
    (f_Board_accepts_L27 a1 FU (0 : Int32) (wL S 7 a1.toNatClampNeg o1)).bind fun v4 => Sum.elim (fun r5 => some r5) (fun v4 =>
    some ((1 : Int32), v4)) v4)
  else
  some ((0 : Int32), S)
theorem f_Board_accepts_s (a1 : Int32) (S : SS) : f_Board_accepts a1 S =
  (f_Board_rowFromCuts a1 S).bind fun o1 =>
  (f_Board_isTaken o1 a1 S).bind fun o2 =>
  if o2 = 0 then
    (if oob a1 8 then none else
    (f_Board_accepts_L27 a1 FU (0 : Int32) (wL S 7 a1.toNatClampNeg o1)).bind fun v4 => Sum.elim (fun r5 => some r5) (fun v4 =>
    some ((1 : Int32), v4)) v4)
  else
  some ((0 : Int32), S) := rfl
def f_Search_stands (S : SS) : Option (Int32 × SS) :=
  if oob (S.1 3 3) 8 then none else
  if (S.1 3 4) ≤ 0 then
    (if (S.1 3 4) < ((S.1 1 0) - (1 : Int32)) then some ((1 : Int32), S) else
    (f_Board_accepts (S.1 3 3) S).bind fun o2 =>
    if o2.1 = 0 then some ((0 : Int32), o2.2) else
    some ((1 : Int32), o2.2))
  else
  if oob ((S.1 3 4) - (1 : Int32)) 6 then none else
  if oob (S.1 3 4) 6 then none else
  (f_Law_mayFollow (S.1 (10 + (S.1 3 3).toNatClampNeg) ((S.1 3 4) - (1 : Int32)).toNatClampNeg) (S.1 (10 + (S.1 3 3).toNatClampNeg) (S.1 3 4).toNatClampNeg) S).bind fun o5 =>
  if o5 = 0 then some ((0 : Int32), S) else
  if (S.1 3 4) < ((S.1 1 0) - (1 : Int32)) then some ((1 : Int32), S) else
  (f_Board_accepts (S.1 3 3) S).bind fun o6 =>
  if o6.1 = 0 then some ((0 : Int32), o6.2) else
  some ((1 : Int32), o6.2)
theorem f_Search_stands_s (S : SS) : f_Search_stands S =
  if oob (S.1 3 3) 8 then none else
  if (S.1 3 4) ≤ 0 then
    (if (S.1 3 4) < ((S.1 1 0) - (1 : Int32)) then some ((1 : Int32), S) else
    (f_Board_accepts (S.1 3 3) S).bind fun o2 =>
    if o2.1 = 0 then some ((0 : Int32), o2.2) else
    some ((1 : Int32), o2.2))
  else
  if oob ((S.1 3 4) - (1 : Int32)) 6 then none else
  if oob (S.1 3 4) 6 then none else
  (f_Law_mayFollow (S.1 (10 + (S.1 3 3).toNatClampNeg) ((S.1 3 4) - (1 : Int32)).toNatClampNeg) (S.1 (10 + (S.1 3 3).toNatClampNeg) (S.1 3 4).toNatClampNeg) S).bind fun o5 =>
  if o5 = 0 then some ((0 : Int32), S) else
  if (S.1 3 4) < ((S.1 1 0) - (1 : Int32)) then some ((1 : Int32), S) else
  (f_Board_accepts (S.1 3 3) S).bind fun o6 =>
  if o6.1 = 0 then some ((0 : Int32), o6.2) else
  some ((1 : Int32), o6.2) := rfl
def f_Search_goBack_L7 : Nat → SS → Option ((Int32 × SS) ⊕ SS)
  | 0, _ => none
  | n + 1, S =>
    if (S.1 3 4) < 0 then some (.inr S) else
    if oob (S.1 3 3) 8 then none else
    if oob (S.1 3 4) 6 then none else
    if ((S.1 1 1) - (1 : Int32)) ≤ (S.1 (10 + (S.1 3 3).toNatClampNeg) (S.1 3 4).toNatClampNeg) then f_Search_goBack_L7 n (wI S 3 4 ((S.1 3 4) - (1 : Int32))) else
    some (.inl ((1 : Int32), S))
theorem f_Search_goBack_L7_s (n : Nat) (S : SS) : f_Search_goBack_L7 (n + 1) S =
    if (S.1 3 4) < 0 then some (.inr S) else
    if oob (S.1 3 3) 8 then none else
    if oob (S.1 3 4) 6 then none else
    if ((S.1 1 1) - (1 : Int32)) ≤ (S.1 (10 + (S.1 3 3).toNatClampNeg) (S.1 3 4).toNatClampNeg) then f_Search_goBack_L7 n (wI S 3 4 ((S.1 3 4) - (1 : Int32))) else
    some (.inl ((1 : Int32), S)) := rfl
def f_Search_goBack_L0 : Nat → SS → Option ((Int32 × SS) ⊕ SS)
  | 0, _ => none
  | n + 1, S =>
    if (S.1 3 3) < 0 then some (.inr S) else
    (f_Search_goBack_L7 FU S).bind fun v1 => Sum.elim (fun r2 => some (.inl r2)) (fun v1 =>
    f_Search_goBack_L0 n (wI (wI v1 3 4 ((v1.1 1 0) - (1 : Int32))) 3 3 ((v1.1 3 3) - (1 : Int32)))) v1
theorem f_Search_goBack_L0_s (n : Nat) (S : SS) : f_Search_goBack_L0 (n + 1) S =
    if (S.1 3 3) < 0 then some (.inr S) else
    (f_Search_goBack_L7 FU S).bind fun v1 => Sum.elim (fun r2 => some (.inl r2)) (fun v1 =>
    f_Search_goBack_L0 n (wI (wI v1 3 4 ((v1.1 1 0) - (1 : Int32))) 3 3 ((v1.1 3 3) - (1 : Int32)))) v1 := rfl
def f_Search_goBack (S : SS) : Option (Int32 × SS) :=
  (f_Search_goBack_L0 FU S).bind fun v1 => Sum.elim (fun r2 => some r2) (fun v1 =>
  some ((0 : Int32), v1)) v1
theorem f_Search_goBack_s (S : SS) : f_Search_goBack S =
  (f_Search_goBack_L0 FU S).bind fun v1 => Sum.elim (fun r2 => some r2) (fun v1 =>
  some ((0 : Int32), v1)) v1 := rfl
def f_Search_goOn (S : SS) : Option (Int32 × SS) :=
  if ((S.1 1 0) - (1 : Int32)) ≤ (S.1 3 4) then
    (if ((S.1 2 1) - (1 : Int32)) ≤ (S.1 3 3) then some ((0 : Int32), S) else
    if oob ((S.1 3 3) + (1 : Int32)) 8 then none else
    if oob (0 : Int32) 6 then none else
    some ((1 : Int32), wI (wI (wI S 3 3 ((S.1 3 3) + (1 : Int32))) 3 4 (0 : Int32)) (10 + ((S.1 3 3) + (1 : Int32)).toNatClampNeg) (0 : Int32).toNatClampNeg (-1 : Int32)))
  else
  if oob (S.1 3 3) 8 then none else
  if oob ((S.1 3 4) + (1 : Int32)) 6 then none else
  some ((1 : Int32), wI (wI S 3 4 ((S.1 3 4) + (1 : Int32))) (10 + (S.1 3 3).toNatClampNeg) ((S.1 3 4) + (1 : Int32)).toNatClampNeg (-1 : Int32))
theorem f_Search_goOn_s (S : SS) : f_Search_goOn S =
  if ((S.1 1 0) - (1 : Int32)) ≤ (S.1 3 4) then
    (if ((S.1 2 1) - (1 : Int32)) ≤ (S.1 3 3) then some ((0 : Int32), S) else
    if oob ((S.1 3 3) + (1 : Int32)) 8 then none else
    if oob (0 : Int32) 6 then none else
    some ((1 : Int32), wI (wI (wI S 3 3 ((S.1 3 3) + (1 : Int32))) 3 4 (0 : Int32)) (10 + ((S.1 3 3) + (1 : Int32)).toNatClampNeg) (0 : Int32).toNatClampNeg (-1 : Int32)))
  else
  if oob (S.1 3 3) 8 then none else
  if oob ((S.1 3 4) + (1 : Int32)) 6 then none else
  some ((1 : Int32), wI (wI S 3 4 ((S.1 3 4) + (1 : Int32))) (10 + (S.1 3 3).toNatClampNeg) ((S.1 3 4) + (1 : Int32)).toNatClampNeg (-1 : Int32)) := rfl
def f_Search_look_L33 (x1 : Int32) : Nat → SS → Option ((Int32 × SS) ⊕ SS)
  | 0, _ => none
  | n + 1, S =>
    if x1 ≤ (S.1 3 2) then some (.inr S) else
    if oob (S.1 3 3) 8 then none else
    if oob (S.1 3 4) 6 then none else
    (f_Search_stands (wI (wI S 3 2 ((S.1 3 2) + (1 : Int32))) (10 + (S.1 3 3).toNatClampNeg) (S.1 3 4).toNatClampNeg (((wI S 3 2 ((S.1 3 2) + (1 : Int32))).1 (10 + (S.1 3 3).toNatClampNeg) (S.1 3 4).toNatClampNeg) + (1 : Int32)))).bind fun o3 =>
    if o3.1 = 0 then
      ((f_Search_goBack o3.2).bind fun o4 =>
      if o4.1 = 0 then some (.inl ((0 : Int32), o4.2)) else
      f_Search_look_L33 x1 n o4.2)
    else
    (f_Search_goOn o3.2).bind fun o5 =>
    if o5.1 = 0 then some (.inl ((1 : Int32), o5.2)) else
    f_Search_look_L33 x1 n o5.2
theorem f_Search_look_L33_s (x1 : Int32) (n : Nat) (S : SS) : f_Search_look_L33 x1 (n + 1) S =
    if x1 ≤ (S.1 3 2) then some (.inr S) else
    if oob (S.1 3 3) 8 then none else
    if oob (S.1 3 4) 6 then none else
    (f_Search_stands (wI (wI S 3 2 ((S.1 3 2) + (1 : Int32))) (10 + (S.1 3 3).toNatClampNeg) (S.1 3 4).toNatClampNeg (((wI S 3 2 ((S.1 3 2) + (1 : Int32))).1 (10 + (S.1 3 3).toNatClampNeg) (S.1 3 4).toNatClampNeg) + (1 : Int32)))).bind fun o3 =>
    if o3.1 = 0 then
      ((f_Search_goBack o3.2).bind fun o4 =>
      if o4.1 = 0 then some (.inl ((0 : Int32), o4.2)) else
      f_Search_look_L33 x1 n o4.2)
    else
    (f_Search_goOn o3.2).bind fun o5 =>
    if o5.1 = 0 then some (.inl ((1 : Int32), o5.2)) else
    f_Search_look_L33 x1 n o5.2 := rfl
def f_Search_look (a1 : Int32) (S : SS) : Option (Int32 × SS) :=
  if oob (0 : Int32) 8 then none else
  if oob (0 : Int32) 6 then none else
  (f_Search_look_L33 a1 FU (wI (wI (wI (wI S 3 2 (0 : Int32)) 3 3 (0 : Int32)) 3 4 (0 : Int32)) (10 + (0 : Int32).toNatClampNeg) (0 : Int32).toNatClampNeg (-1 : Int32))).bind fun v3 => Sum.elim (fun r4 => some r4) (fun v3 =>
  some ((2 : Int32), v3)) v3
theorem f_Search_look_s (a1 : Int32) (S : SS) : f_Search_look a1 S =
  if oob (0 : Int32) 8 then none else
  if oob (0 : Int32) 6 then none else
  (f_Search_look_L33 a1 FU (wI (wI (wI (wI S 3 2 (0 : Int32)) 3 3 (0 : Int32)) 3 4 (0 : Int32)) (10 + (0 : Int32).toNatClampNeg) (0 : Int32).toNatClampNeg (-1 : Int32))).bind fun v3 => Sum.elim (fun r4 => some r4) (fun v3 =>
  some ((2 : Int32), v3)) v3 := rfl
def f_MK_run (a1 : Int32) (S : SS) : Option (Nat ⊕ (Int32 × SS)) :=
  if a1 < 0 then some (.inl 1) else
  if a1 ≤ (200000 : Int32) then
    (if (S.1 2 1) = 0 then some (.inl 2) else
    (f_Search_look a1 S).bind fun o1 =>
    if o1.1 = (1 : Int32) then some (.inr (o1.1, wI o1.2 0 4 (1 : Int32))) else
    some (.inr (o1.1, wI o1.2 0 4 (0 : Int32))))
  else
  some (.inl 1)
theorem f_MK_run_s (a1 : Int32) (S : SS) : f_MK_run a1 S =
  if a1 < 0 then some (.inl 1) else
  if a1 ≤ (200000 : Int32) then
    (if (S.1 2 1) = 0 then some (.inl 2) else
    (f_Search_look a1 S).bind fun o1 =>
    if o1.1 = (1 : Int32) then some (.inr (o1.1, wI o1.2 0 4 (1 : Int32))) else
    some (.inr (o1.1, wI o1.2 0 4 (0 : Int32))))
  else
  some (.inl 1) := rfl
def f_MK_needPin (a1 : Int32) (S : SS) : Option (Nat ⊕ Unit) :=
  if a1 < 0 then some (.inl 1) else
  if a1 < (S.1 1 0) then some (.inr ()) else
  some (.inl 1)
theorem f_MK_needPin_s (a1 : Int32) (S : SS) : f_MK_needPin a1 S =
  if a1 < 0 then some (.inl 1) else
  if a1 < (S.1 1 0) then some (.inr ()) else
  some (.inl 1) := rfl
def f_MK_cut (a1 : Int32) (a2 : Int32) (S : SS) : Option (Nat ⊕ Int32) :=
  (f_MK_needKey a1 S).bind fun o1 => Sum.elim (fun c6 => some (.inl c6)) (fun o1 =>
  (f_MK_needPin a2 S).bind fun o2 => Sum.elim (fun c5 => some (.inl c5)) (fun o2 =>
  if (S.1 0 4) = 0 then some (.inr (-1 : Int32)) else
  if oob a1 8 then none else
  if oob a2 6 then none else
  some (.inr (S.1 (10 + a1.toNatClampNeg) a2.toNatClampNeg))) o2) o1
theorem f_MK_cut_s (a1 : Int32) (a2 : Int32) (S : SS) : f_MK_cut a1 a2 S =
  (f_MK_needKey a1 S).bind fun o1 => Sum.elim (fun c6 => some (.inl c6)) (fun o1 =>
  (f_MK_needPin a2 S).bind fun o2 => Sum.elim (fun c5 => some (.inl c5)) (fun o2 =>
  if (S.1 0 4) = 0 then some (.inr (-1 : Int32)) else
  if oob a1 8 then none else
  if oob a2 6 then none else
  some (.inr (S.1 (10 + a1.toNatClampNeg) a2.toNatClampNeg))) o2) o1 := rfl
def f_Board_doorsHolding (a1 : Int32) (a2 : Int32) (S : SS) : Option (Int32) :=
  (f_Board_bit a1 a2 S).bind fun o1 =>
  (f_Board_doorsFitted o1 S).bind fun o2 =>
  some o2
theorem f_Board_doorsHolding_s (a1 : Int32) (a2 : Int32) (S : SS) : f_Board_doorsHolding a1 a2 S =
  (f_Board_bit a1 a2 S).bind fun o1 =>
  (f_Board_doorsFitted o1 S).bind fun o2 =>
  some o2 := rfl
def f_MK_holds (a1 : Int32) (a2 : Int32) (a3 : Int32) (S : SS) : Option (Nat ⊕ Int32) :=
  (f_MK_needDoor a1 S).bind fun o1 => Sum.elim (fun c7 => some (.inl c7)) (fun o1 =>
  (f_MK_needPin a2 S).bind fun o2 => Sum.elim (fun c6 => some (.inl c6)) (fun o2 =>
  (f_MK_needDepth a3 S).bind fun o3 => Sum.elim (fun c5 => some (.inl c5)) (fun o3 =>
  if (S.1 0 4) = 0 then some (.inr (0 : Int32)) else
  (f_Board_doorsHolding a2 a3 S).bind fun o4 =>
  if ((o4 >>> (a1 &&& 31)) &&& (1 : Int32)) = 0 then some (.inr (0 : Int32)) else
  some (.inr (1 : Int32))) o3) o2) o1
theorem f_MK_holds_s (a1 : Int32) (a2 : Int32) (a3 : Int32) (S : SS) : f_MK_holds a1 a2 a3 S =
  (f_MK_needDoor a1 S).bind fun o1 => Sum.elim (fun c7 => some (.inl c7)) (fun o1 =>
  (f_MK_needPin a2 S).bind fun o2 => Sum.elim (fun c6 => some (.inl c6)) (fun o2 =>
  (f_MK_needDepth a3 S).bind fun o3 => Sum.elim (fun c5 => some (.inl c5)) (fun o3 =>
  if (S.1 0 4) = 0 then some (.inr (0 : Int32)) else
  (f_Board_doorsHolding a2 a3 S).bind fun o4 =>
  if ((o4 >>> (a1 &&& 31)) &&& (1 : Int32)) = 0 then some (.inr (0 : Int32)) else
  some (.inr (1 : Int32))) o3) o2) o1 := rfl
def f_MK_fits (a1 : Int32) (a2 : Int32) (S : SS) : Option (Nat ⊕ Int32) :=
  (f_MK_needKey a1 S).bind fun o1 => Sum.elim (fun c5 => some (.inl c5)) (fun o1 =>
  (f_MK_needDoor a2 S).bind fun o2 => Sum.elim (fun c4 => some (.inl c4)) (fun o2 =>
  if (S.1 0 4) = 0 then some (.inr (0 : Int32)) else
  (f_Board_doorsOf a1 S).bind fun o3 =>
  if ((o3 >>> (a2 &&& 31)) &&& (1 : Int32)) = 0 then some (.inr (0 : Int32)) else
  some (.inr (1 : Int32))) o2) o1
theorem f_MK_fits_s (a1 : Int32) (a2 : Int32) (S : SS) : f_MK_fits a1 a2 S =
  (f_MK_needKey a1 S).bind fun o1 => Sum.elim (fun c5 => some (.inl c5)) (fun o1 =>
  (f_MK_needDoor a2 S).bind fun o2 => Sum.elim (fun c4 => some (.inl c4)) (fun o2 =>
  if (S.1 0 4) = 0 then some (.inr (0 : Int32)) else
  (f_Board_doorsOf a1 S).bind fun o3 =>
  if ((o3 >>> (a2 &&& 31)) &&& (1 : Int32)) = 0 then some (.inr (0 : Int32)) else
  some (.inr (1 : Int32))) o2) o1 := rfl
def f_MK_needPlan (S : SS) : Option (Nat ⊕ Unit) :=
  if (S.1 0 4) = 0 then some (.inl 2) else
  some (.inr ())
theorem f_MK_needPlan_s (S : SS) : f_MK_needPlan S =
  if (S.1 0 4) = 0 then some (.inl 2) else
  some (.inr ()) := rfl
def f_Rows_state (a0 : Int32) (a1 : Int32) (S : SS) : Option (Int32) :=
  some ((a0 * (64 : Int32)) + a1)
theorem f_Rows_state_s (a0 : Int32) (a1 : Int32) (S : SS) : f_Rows_state a0 a1 S =
  some ((a0 * (64 : Int32)) + a1) := rfl
def f_Rows_addWays_L3 (x1 : Int32) (x2 : Int32) (x3 : Int32) (x4 : Int32) : Nat → Int32 → SS → Option (SS)
  | 0, _, _ => none
  | n + 1, x5, S =>
    if (64 : Int32) ≤ x5 then some S else
    if oob x1 6 then none else
    (f_Rows_state x2 x5 S).bind fun o2 =>
    if oob o2 512 then none else
    if oob (x1 + (1 : Int32)) 6 then none else
    (f_Rows_state x3 (x5 &&& x4) S).bind fun o5 =>
    if oob o5 512 then none else
    f_Rows_addWays_L3 x1 x2 x3 x4 n (x5 + 1) (wI S (27 + x1.toNatClampNeg) o2.toNatClampNeg ((S.1 (27 + x1.toNatClampNeg) o2.toNatClampNeg) + (S.1 (27 + (x1 + (1 : Int32)).toNatClampNeg) o5.toNatClampNeg)))
theorem f_Rows_addWays_L3_s (x1 : Int32) (x2 : Int32) (x3 : Int32) (x4 : Int32) (n : Nat) (x5 : Int32) (S : SS) : f_Rows_addWays_L3 x1 x2 x3 x4 (n + 1) x5 S =
    if (64 : Int32) ≤ x5 then some S else
    if oob x1 6 then none else
    (f_Rows_state x2 x5 S).bind fun o2 =>
    if oob o2 512 then none else
    if oob (x1 + (1 : Int32)) 6 then none else
    (f_Rows_state x3 (x5 &&& x4) S).bind fun o5 =>
    if oob o5 512 then none else
    f_Rows_addWays_L3 x1 x2 x3 x4 n (x5 + 1) (wI S (27 + x1.toNatClampNeg) o2.toNatClampNeg ((S.1 (27 + x1.toNatClampNeg) o2.toNatClampNeg) + (S.1 (27 + (x1 + (1 : Int32)).toNatClampNeg) o5.toNatClampNeg))) := rfl
def f_Rows_addWays (a1 : Int32) (a2 : Int32) (a3 : Int32) (a4 : Int32) (S : SS) : Option (SS) :=
  (f_Rows_addWays_L3 a1 a2 a3 a4 FU (0 : Int32) S).bind fun v1 =>
  some v1
theorem f_Rows_addWays_s (a1 : Int32) (a2 : Int32) (a3 : Int32) (a4 : Int32) (S : SS) : f_Rows_addWays a1 a2 a3 a4 S =
  (f_Rows_addWays_L3 a1 a2 a3 a4 FU (0 : Int32) S).bind fun v1 =>
  some v1 := rfl
def f_Rows_countWaysBehind_L2 (x1 : Int32) : Nat → Int32 → SS → Option (SS)
  | 0, _, _ => none
  | n + 1, x2, S =>
    if (512 : Int32) ≤ x2 then some S else
    if oob x1 6 then none else
    if oob x2 512 then none else
    f_Rows_countWaysBehind_L2 x1 n (x2 + 1) (wI S (27 + x1.toNatClampNeg) x2.toNatClampNeg (0 : Int32))
theorem f_Rows_countWaysBehind_L2_s (x1 : Int32) (n : Nat) (x2 : Int32) (S : SS) : f_Rows_countWaysBehind_L2 x1 (n + 1) x2 S =
    if (512 : Int32) ≤ x2 then some S else
    if oob x1 6 then none else
    if oob x2 512 then none else
    f_Rows_countWaysBehind_L2 x1 n (x2 + 1) (wI S (27 + x1.toNatClampNeg) x2.toNatClampNeg (0 : Int32)) := rfl
def f_Rows_countWaysBehind_L52 (x1 : Int32) (x2 : Int32) (x3 : Int32) : Nat → Int32 → SS → Option (SS)
  | 0, _, _ => none
  | n + 1, x4, S =>
    if (S.1 1 1) ≤ x4 then some S else
    (f_Law_mayFollow x4 x2 S).bind fun o1 =>
    if o1 = 0 then f_Rows_countWaysBehind_L52 x1 x2 x3 n (x4 + 1) S else
    (f_Rows_addWays x1 x4 x2 x3 S).bind fun o2 =>
    f_Rows_countWaysBehind_L52 x1 x2 x3 n (x4 + 1) o2
theorem f_Rows_countWaysBehind_L52_s (x1 : Int32) (x2 : Int32) (x3 : Int32) (n : Nat) (x4 : Int32) (S : SS) : f_Rows_countWaysBehind_L52 x1 x2 x3 (n + 1) x4 S =
    if (S.1 1 1) ≤ x4 then some S else
    (f_Law_mayFollow x4 x2 S).bind fun o1 =>
    if o1 = 0 then f_Rows_countWaysBehind_L52 x1 x2 x3 n (x4 + 1) S else
    (f_Rows_addWays x1 x4 x2 x3 S).bind fun o2 =>
    f_Rows_countWaysBehind_L52 x1 x2 x3 n (x4 + 1) o2 := rfl
def f_Rows_countWaysBehind_L26 (x1 : Int32) : Nat → Int32 → SS → Option (SS)
  | 0, _, _ => none
  | n + 1, x2, S =>
    if (S.1 1 1) ≤ x2 then some S else
    (f_Board_doorsHolding (x1 + (1 : Int32)) x2 S).bind fun o1 =>
    (f_Rows_countWaysBehind_L52 x1 x2 o1 FU (0 : Int32) S).bind fun v2 =>
    f_Rows_countWaysBehind_L26 x1 n (x2 + 1) v2
theorem f_Rows_countWaysBehind_L26_s (x1 : Int32) (n : Nat) (x2 : Int32) (S : SS) : f_Rows_countWaysBehind_L26 x1 (n + 1) x2 S =
    if (S.1 1 1) ≤ x2 then some S else
    (f_Board_doorsHolding (x1 + (1 : Int32)) x2 S).bind fun o1 =>
    (f_Rows_countWaysBehind_L52 x1 x2 o1 FU (0 : Int32) S).bind fun v2 =>
    f_Rows_countWaysBehind_L26 x1 n (x2 + 1) v2 := rfl
def f_Rows_countWaysBehind (a1 : Int32) (S : SS) : Option (SS) :=
  (f_Rows_countWaysBehind_L2 a1 FU (0 : Int32) S).bind fun v1 =>
  (f_Rows_countWaysBehind_L26 a1 FU (0 : Int32) v1).bind fun v2 =>
  some v2
theorem f_Rows_countWaysBehind_s (a1 : Int32) (S : SS) : f_Rows_countWaysBehind a1 S =
  (f_Rows_countWaysBehind_L2 a1 FU (0 : Int32) S).bind fun v1 =>
  (f_Rows_countWaysBehind_L26 a1 FU (0 : Int32) v1).bind fun v2 =>
  some v2 := rfl
def f_Rows_countWays_L26 (x1 : Int32) (x2 : Int32) (x3 : Int32) : Nat → Int32 → SS → Option (SS)
  | 0, _, _ => none
  | n + 1, x4, S =>
    if (64 : Int32) ≤ x4 then some S else
    if oob x2 6 then none else
    (f_Rows_state x3 x4 S).bind fun o2 =>
    if x4 = x1 then
      (if oob o2 512 then none else
      f_Rows_countWays_L26 x1 x2 x3 n (x4 + 1) (wI S (27 + x2.toNatClampNeg) o2.toNatClampNeg (1 : Int32)))
    else
    if oob o2 512 then none else
    f_Rows_countWays_L26 x1 x2 x3 n (x4 + 1) (wI S (27 + x2.toNatClampNeg) o2.toNatClampNeg (0 : Int32))
theorem f_Rows_countWays_L26_s (x1 : Int32) (x2 : Int32) (x3 : Int32) (n : Nat) (x4 : Int32) (S : SS) : f_Rows_countWays_L26 x1 x2 x3 (n + 1) x4 S =
    if (64 : Int32) ≤ x4 then some S else
    if oob x2 6 then none else
    (f_Rows_state x3 x4 S).bind fun o2 =>
    if x4 = x1 then
      (if oob o2 512 then none else
      f_Rows_countWays_L26 x1 x2 x3 n (x4 + 1) (wI S (27 + x2.toNatClampNeg) o2.toNatClampNeg (1 : Int32)))
    else
    if oob o2 512 then none else
    f_Rows_countWays_L26 x1 x2 x3 n (x4 + 1) (wI S (27 + x2.toNatClampNeg) o2.toNatClampNeg (0 : Int32)) := rfl
def f_Rows_countWays_L12 (x1 : Int32) (x2 : Int32) : Nat → Int32 → SS → Option (SS)
  | 0, _, _ => none
  | n + 1, x3, S =>
    if (S.1 1 1) ≤ x3 then some S else
    (f_Rows_countWays_L26 x1 x2 x3 FU (0 : Int32) S).bind fun v1 =>
    f_Rows_countWays_L12 x1 x2 n (x3 + 1) v1
theorem f_Rows_countWays_L12_s (x1 : Int32) (x2 : Int32) (n : Nat) (x3 : Int32) (S : SS) : f_Rows_countWays_L12 x1 x2 (n + 1) x3 S =
    if (S.1 1 1) ≤ x3 then some S else
    (f_Rows_countWays_L26 x1 x2 x3 FU (0 : Int32) S).bind fun v1 =>
    f_Rows_countWays_L12 x1 x2 n (x3 + 1) v1 := rfl
def f_Rows_countWays_L73 : Nat → Int32 → SS → Option (SS)
  | 0, _, _ => none
  | n + 1, x3, S =>
    if x3 < 0 then some S else
    (f_Rows_countWaysBehind x3 S).bind fun o1 =>
    f_Rows_countWays_L73 n (x3 + (-1)) o1
theorem f_Rows_countWays_L73_s (n : Nat) (x3 : Int32) (S : SS) : f_Rows_countWays_L73 (n + 1) x3 S =
    if x3 < 0 then some S else
    (f_Rows_countWaysBehind x3 S).bind fun o1 =>
    f_Rows_countWays_L73 n (x3 + (-1)) o1 := rfl
def f_Rows_countWays (a1 : Int32) (S : SS) : Option (SS) :=
  (f_Rows_countWays_L12 a1 ((S.1 1 0) - (1 : Int32)) FU (0 : Int32) S).bind fun v1 =>
  (f_Rows_countWays_L73 FU (((S.1 1 0) - (1 : Int32)) - (1 : Int32)) v1).bind fun v2 =>
  some v2
theorem f_Rows_countWays_s (a1 : Int32) (S : SS) : f_Rows_countWays a1 S =
  (f_Rows_countWays_L12 a1 ((S.1 1 0) - (1 : Int32)) FU (0 : Int32) S).bind fun v1 =>
  (f_Rows_countWays_L73 FU (((S.1 1 0) - (1 : Int32)) - (1 : Int32)) v1).bind fun v2 =>
  some v2 := rfl
def f_Board_countKeys_L6 (y1 : Int64) (x3 : Int32) : Nat → Int32 → Int32 → SS → Option (Int32)
  | 0, _, _, _ => none
  | n + 1, x4, x5, S =>
    if (S.1 2 1) ≤ x5 then some x4 else
    if oob x5 8 then none else
    (f_Board_isWithin y1 (S.2 7 x5.toNatClampNeg) S).bind fun o2 =>
    if o2 = 0 then f_Board_countKeys_L6 y1 x3 n x4 (x5 + 1) S else
    (f_Board_doorsOf x5 S).bind fun o3 =>
    if o3 = x3 then f_Board_countKeys_L6 y1 x3 n (x4 + 1) (x5 + 1) S else
    f_Board_countKeys_L6 y1 x3 n x4 (x5 + 1) S
theorem f_Board_countKeys_L6_s (y1 : Int64) (x3 : Int32) (n : Nat) (x4 : Int32) (x5 : Int32) (S : SS) : f_Board_countKeys_L6 y1 x3 (n + 1) x4 x5 S =
    if (S.1 2 1) ≤ x5 then some x4 else
    if oob x5 8 then none else
    (f_Board_isWithin y1 (S.2 7 x5.toNatClampNeg) S).bind fun o2 =>
    if o2 = 0 then f_Board_countKeys_L6 y1 x3 n x4 (x5 + 1) S else
    (f_Board_doorsOf x5 S).bind fun o3 =>
    if o3 = x3 then f_Board_countKeys_L6 y1 x3 n (x4 + 1) (x5 + 1) S else
    f_Board_countKeys_L6 y1 x3 n x4 (x5 + 1) S := rfl
def f_Board_countKeys (a1 : Int64) (a3 : Int32) (S : SS) : Option (Int32) :=
  (f_Board_countKeys_L6 a1 a3 FU (0 : Int32) (0 : Int32) S).bind fun v1 =>
  some v1
theorem f_Board_countKeys_s (a1 : Int64) (a3 : Int32) (S : SS) : f_Board_countKeys a1 a3 S =
  (f_Board_countKeys_L6 a1 a3 FU (0 : Int32) (0 : Int32) S).bind fun v1 =>
  some v1 := rfl
def f_Rows_countFree_L9 (x1 : Int32) : Nat → Int32 → Int32 → SS → Option (Int32)
  | 0, _, _, _ => none
  | n + 1, x2, x3, S =>
    if (S.1 1 1) ≤ x3 then some x2 else
    if oob (0 : Int32) 6 then none else
    (f_Board_doorsHolding (0 : Int32) x3 S).bind fun o2 =>
    (f_Rows_state x3 o2 S).bind fun o3 =>
    if oob o3 512 then none else
    f_Rows_countFree_L9 x1 n (x2 + (S.1 (27 + (0 : Int32).toNatClampNeg) o3.toNatClampNeg)) (x3 + 1) S
theorem f_Rows_countFree_L9_s (x1 : Int32) (n : Nat) (x2 : Int32) (x3 : Int32) (S : SS) : f_Rows_countFree_L9 x1 (n + 1) x2 x3 S =
    if (S.1 1 1) ≤ x3 then some x2 else
    if oob (0 : Int32) 6 then none else
    (f_Board_doorsHolding (0 : Int32) x3 S).bind fun o2 =>
    (f_Rows_state x3 o2 S).bind fun o3 =>
    if oob o3 512 then none else
    f_Rows_countFree_L9 x1 n (x2 + (S.1 (27 + (0 : Int32).toNatClampNeg) o3.toNatClampNeg)) (x3 + 1) S := rfl
def f_Rows_countFree (a1 : Int32) (S : SS) : Option (Int32 × SS) :=
  (f_Rows_countWays a1 S).bind fun o1 =>
  (f_Rows_countFree_L9 a1 FU (0 : Int32) (0 : Int32) o1).bind fun v2 =>
  (f_Board_countKeys (0 : Int64) a1 o1).bind fun o3 =>
  some (v2 - o3, o1)
theorem f_Rows_countFree_s (a1 : Int32) (S : SS) : f_Rows_countFree a1 S =
  (f_Rows_countWays a1 S).bind fun o1 =>
  (f_Rows_countFree_L9 a1 FU (0 : Int32) (0 : Int32) o1).bind fun v2 =>
  (f_Board_countKeys (0 : Int64) a1 o1).bind fun o3 =>
  some (v2 - o3, o1) := rfl
def f_MK_left (S : SS) : Option (Nat ⊕ (Int32 × SS)) :=
  (f_MK_needPlan S).bind fun o1 => Sum.elim (fun c3 => some (.inl c3)) (fun o1 =>
  (f_Rows_countFree (0 : Int32) S).bind fun o2 =>
  some (.inr (o2.1, o2.2))) o1
theorem f_MK_left_s (S : SS) : f_MK_left S =
  (f_MK_needPlan S).bind fun o1 => Sum.elim (fun c3 => some (.inl c3)) (fun o1 =>
  (f_Rows_countFree (0 : Int32) S).bind fun o2 =>
  some (.inr (o2.1, o2.2))) o1 := rfl
def f_Board_allDoors (S : SS) : Option (Int32) :=
  some (((1 : Int32) <<< ((S.1 2 2) &&& 31)) - (1 : Int32))
theorem f_Board_allDoors_s (S : SS) : f_Board_allDoors S =
  some (((1 : Int32) <<< ((S.1 2 2) &&& 31)) - (1 : Int32)) := rfl
def f_Rows_leastDepth_L3 (x1 : Int32) (x2 : Int32) (x3 : Int32) (y4 : Int64) (x6 : Int32) : Nat → Int32 → SS → Option (Int32 ⊕ Unit)
  | 0, _, _ => none
  | n + 1, x7, S =>
    if (S.1 1 1) ≤ x7 then some (.inr ()) else
    if x2 = (-1 : Int32) then
      ((f_Board_doorsHolding x1 x7 S).bind fun o1 =>
      (f_Board_bit x1 x7 S).bind fun o2 =>
      (f_Board_countKeys (y4 ||| o2) x6 S).bind fun o3 =>
      if oob x1 6 then none else
      (f_Rows_state x7 (x3 &&& o1) S).bind fun o5 =>
      if oob o5 512 then none else
      if (S.1 (27 + x1.toNatClampNeg) o5.toNatClampNeg) ≤ o3 then f_Rows_leastDepth_L3 x1 x2 x3 y4 x6 n (x7 + 1) S else
      some (.inl x7))
    else
    (f_Law_mayFollow x2 x7 S).bind fun o7 =>
    if o7 = 0 then f_Rows_leastDepth_L3 x1 x2 x3 y4 x6 n (x7 + 1) S else
    (f_Board_doorsHolding x1 x7 S).bind fun o8 =>
    (f_Board_bit x1 x7 S).bind fun o9 =>
    (f_Board_countKeys (y4 ||| o9) x6 S).bind fun o10 =>
    if oob x1 6 then none else
    (f_Rows_state x7 (x3 &&& o8) S).bind fun o12 =>
    if oob o12 512 then none else
    if (S.1 (27 + x1.toNatClampNeg) o12.toNatClampNeg) ≤ o10 then f_Rows_leastDepth_L3 x1 x2 x3 y4 x6 n (x7 + 1) S else
    some (.inl x7)
theorem f_Rows_leastDepth_L3_s (x1 : Int32) (x2 : Int32) (x3 : Int32) (y4 : Int64) (x6 : Int32) (n : Nat) (x7 : Int32) (S : SS) : f_Rows_leastDepth_L3 x1 x2 x3 y4 x6 (n + 1) x7 S =
    if (S.1 1 1) ≤ x7 then some (.inr ()) else
    if x2 = (-1 : Int32) then
      ((f_Board_doorsHolding x1 x7 S).bind fun o1 =>
      (f_Board_bit x1 x7 S).bind fun o2 =>
      (f_Board_countKeys (y4 ||| o2) x6 S).bind fun o3 =>
      if oob x1 6 then none else
      (f_Rows_state x7 (x3 &&& o1) S).bind fun o5 =>
      if oob o5 512 then none else
      if (S.1 (27 + x1.toNatClampNeg) o5.toNatClampNeg) ≤ o3 then f_Rows_leastDepth_L3 x1 x2 x3 y4 x6 n (x7 + 1) S else
      some (.inl x7))
    else
    (f_Law_mayFollow x2 x7 S).bind fun o7 =>
    if o7 = 0 then f_Rows_leastDepth_L3 x1 x2 x3 y4 x6 n (x7 + 1) S else
    (f_Board_doorsHolding x1 x7 S).bind fun o8 =>
    (f_Board_bit x1 x7 S).bind fun o9 =>
    (f_Board_countKeys (y4 ||| o9) x6 S).bind fun o10 =>
    if oob x1 6 then none else
    (f_Rows_state x7 (x3 &&& o8) S).bind fun o12 =>
    if oob o12 512 then none else
    if (S.1 (27 + x1.toNatClampNeg) o12.toNatClampNeg) ≤ o10 then f_Rows_leastDepth_L3 x1 x2 x3 y4 x6 n (x7 + 1) S else
    some (.inl x7) := rfl
def f_Rows_leastDepth (a1 : Int32) (a2 : Int32) (a3 : Int32) (a4 : Int64) (a6 : Int32) (S : SS) : Option (Int32) :=
  (f_Rows_leastDepth_L3 a1 a2 a3 a4 a6 FU (0 : Int32) S).bind fun v1 => Sum.elim (fun r2 => some r2) (fun v1 =>
  some (-1 : Int32)) v1
theorem f_Rows_leastDepth_s (a1 : Int32) (a2 : Int32) (a3 : Int32) (a4 : Int64) (a6 : Int32) (S : SS) : f_Rows_leastDepth a1 a2 a3 a4 a6 S =
  (f_Rows_leastDepth_L3 a1 a2 a3 a4 a6 FU (0 : Int32) S).bind fun v1 => Sum.elim (fun r2 => some r2) (fun v1 =>
  some (-1 : Int32)) v1 := rfl
def f_Rows_cutLeast_L35 (x1 : Int32) (q2 : Nat) : Nat → Int32 → Int64 → Int32 → SS → Option ((Int32 × SS) ⊕ SS)
  | 0, _, _, _, _ => none
  | n + 1, x3, y4, x6, S =>
    if (S.1 1 0) ≤ x6 then some (.inr S) else
    if x6 ≤ 0 then
      ((f_Rows_leastDepth x6 (-1 : Int32) x3 y4 x1 S).bind fun o1 =>
      if o1 = (-1 : Int32) then some (.inl ((0 : Int32), S)) else
      if oob x6 6 then none else
      (f_Board_doorsHolding x6 o1 (wI S q2 x6.toNatClampNeg o1)).bind fun o3 =>
      (f_Board_bit x6 o1 (wI S q2 x6.toNatClampNeg o1)).bind fun o4 =>
      f_Rows_cutLeast_L35 x1 q2 n (x3 &&& o3) (y4 ||| o4) (x6 + 1) (wI S q2 x6.toNatClampNeg o1))
    else
    if oob (x6 - (1 : Int32)) 6 then none else
    (f_Rows_leastDepth x6 (S.1 q2 (x6 - (1 : Int32)).toNatClampNeg) x3 y4 x1 S).bind fun o6 =>
    if o6 = (-1 : Int32) then some (.inl ((0 : Int32), S)) else
    if oob x6 6 then none else
    (f_Board_doorsHolding x6 o6 (wI S q2 x6.toNatClampNeg o6)).bind fun o8 =>
    (f_Board_bit x6 o6 (wI S q2 x6.toNatClampNeg o6)).bind fun o9 =>
    f_Rows_cutLeast_L35 x1 q2 n (x3 &&& o8) (y4 ||| o9) (x6 + 1) (wI S q2 x6.toNatClampNeg o6)
theorem f_Rows_cutLeast_L35_s (x1 : Int32) (q2 : Nat) (n : Nat) (x3 : Int32) (y4 : Int64) (x6 : Int32) (S : SS) : f_Rows_cutLeast_L35 x1 q2 (n + 1) x3 y4 x6 S =
    if (S.1 1 0) ≤ x6 then some (.inr S) else
    if x6 ≤ 0 then
      ((f_Rows_leastDepth x6 (-1 : Int32) x3 y4 x1 S).bind fun o1 =>
      if o1 = (-1 : Int32) then some (.inl ((0 : Int32), S)) else
      if oob x6 6 then none else
      (f_Board_doorsHolding x6 o1 (wI S q2 x6.toNatClampNeg o1)).bind fun o3 =>
      (f_Board_bit x6 o1 (wI S q2 x6.toNatClampNeg o1)).bind fun o4 =>
      f_Rows_cutLeast_L35 x1 q2 n (x3 &&& o3) (y4 ||| o4) (x6 + 1) (wI S q2 x6.toNatClampNeg o1))
    else
    if oob (x6 - (1 : Int32)) 6 then none else
    (f_Rows_leastDepth x6 (S.1 q2 (x6 - (1 : Int32)).toNatClampNeg) x3 y4 x1 S).bind fun o6 =>
    if o6 = (-1 : Int32) then some (.inl ((0 : Int32), S)) else
    if oob x6 6 then none else
    (f_Board_doorsHolding x6 o6 (wI S q2 x6.toNatClampNeg o6)).bind fun o8 =>
    (f_Board_bit x6 o6 (wI S q2 x6.toNatClampNeg o6)).bind fun o9 =>
    f_Rows_cutLeast_L35 x1 q2 n (x3 &&& o8) (y4 ||| o9) (x6 + 1) (wI S q2 x6.toNatClampNeg o6) := rfl
def f_Rows_cutLeast (a1 : Int32) (S : SS) : Option (Int32 × SS) :=
  (f_Rows_countWays a1 S).bind fun o1 =>
  if oob (o1.1 2 1) 8 then none else
  (f_Board_allDoors o1).bind fun o3 =>
  (f_Rows_cutLeast_L35 a1 (10 + (o1.1 2 1).toNatClampNeg) FU o3 (0 : Int64) (0 : Int32) o1).bind fun v4 => Sum.elim (fun r5 => some r5) (fun v4 =>
  some ((1 : Int32), v4)) v4
theorem f_Rows_cutLeast_s (a1 : Int32) (S : SS) : f_Rows_cutLeast a1 S =
  (f_Rows_countWays a1 S).bind fun o1 =>
  if oob (o1.1 2 1) 8 then none else
  (f_Board_allDoors o1).bind fun o3 =>
  (f_Rows_cutLeast_L35 a1 (10 + (o1.1 2 1).toNatClampNeg) FU o3 (0 : Int64) (0 : Int32) o1).bind fun v4 => Sum.elim (fun r5 => some r5) (fun v4 =>
  some ((1 : Int32), v4)) v4 := rfl
def f_Board_enter_L25 (x2 : Int32) : Nat → Int32 → SS → Option (SS)
  | 0, _, _ => none
  | n + 1, x3, S =>
    if (S.1 2 2) ≤ x3 then some S else
    if oob (x2 + (1 : Int32)) 9 then none else
    if oob x2 9 then none else
    if oob x3 6 then none else
    f_Board_enter_L25 x2 n (x3 + 1) (wL S (18 + (x2 + (1 : Int32)).toNatClampNeg) x3.toNatClampNeg (S.2 (18 + x2.toNatClampNeg) x3.toNatClampNeg))
theorem f_Board_enter_L25_s (x2 : Int32) (n : Nat) (x3 : Int32) (S : SS) : f_Board_enter_L25 x2 (n + 1) x3 S =
    if (S.1 2 2) ≤ x3 then some S else
    if oob (x2 + (1 : Int32)) 9 then none else
    if oob x2 9 then none else
    if oob x3 6 then none else
    f_Board_enter_L25 x2 n (x3 + 1) (wL S (18 + (x2 + (1 : Int32)).toNatClampNeg) x3.toNatClampNeg (S.2 (18 + x2.toNatClampNeg) x3.toNatClampNeg)) := rfl
def f_Board_enter (a1 : Int32) (S : SS) : Option (SS) :=
  if oob (S.1 2 1) 8 then none else
  (f_Board_rowFromCuts (S.1 2 1) (wI S 5 (S.1 2 1).toNatClampNeg a1)).bind fun o2 =>
  (f_Board_enter_L25 (S.1 2 1) FU (0 : Int32) (wL (wI S 5 (S.1 2 1).toNatClampNeg a1) 7 (S.1 2 1).toNatClampNeg o2)).bind fun v3 =>
  some (wI v3 2 1 ((v3.1 2 1) + (1 : Int32)))
theorem f_Board_enter_s (a1 : Int32) (S : SS) : f_Board_enter a1 S =
  if oob (S.1 2 1) 8 then none else
  (f_Board_rowFromCuts (S.1 2 1) (wI S 5 (S.1 2 1).toNatClampNeg a1)).bind fun o2 =>
  (f_Board_enter_L25 (S.1 2 1) FU (0 : Int32) (wL (wI S 5 (S.1 2 1).toNatClampNeg a1) 7 (S.1 2 1).toNatClampNeg o2)).bind fun v3 =>
  some (wI v3 2 1 ((v3.1 2 1) + (1 : Int32))) := rfl
def f_MK_add (a1 : Int32) (S : SS) : Option (Nat ⊕ (Int32 × SS)) :=
  if a1 < 0 then some (.inl 1) else
  (f_Board_allDoors S).bind fun o1 =>
  if a1 ≤ o1 then
    ((f_MK_needPlan S).bind fun o2 => Sum.elim (fun c5 => some (.inl c5)) (fun o2 =>
    if (S.1 2 1) < (8 : Int32) then
      ((f_Rows_cutLeast a1 S).bind fun o3 =>
      if o3.1 = 0 then some (.inr ((-1 : Int32), o3.2)) else
      (f_Board_enter a1 o3.2).bind fun o4 =>
      some (.inr ((o4.1 2 1) - (1 : Int32), o4)))
    else
    some (.inl 2)) o2)
  else
  some (.inl 1)
theorem f_MK_add_s (a1 : Int32) (S : SS) : f_MK_add a1 S =
  if a1 < 0 then some (.inl 1) else
  (f_Board_allDoors S).bind fun o1 =>
  if a1 ≤ o1 then
    ((f_MK_needPlan S).bind fun o2 => Sum.elim (fun c5 => some (.inl c5)) (fun o2 =>
    if (S.1 2 1) < (8 : Int32) then
      ((f_Rows_cutLeast a1 S).bind fun o3 =>
      if o3.1 = 0 then some (.inr ((-1 : Int32), o3.2)) else
      (f_Board_enter a1 o3.2).bind fun o4 =>
      some (.inr ((o4.1 2 1) - (1 : Int32), o4)))
    else
    some (.inl 2)) o2)
  else
  some (.inl 1) := rfl
def f_MK_heirs_L23 (x1 : Int32) (x2 : Int32) : Nat → Int32 → Int32 → SS → Option (Int32)
  | 0, _, _, _ => none
  | n + 1, x3, x4, S =>
    if (S.1 2 1) ≤ x4 then some x3 else
    if x4 = x1 then f_MK_heirs_L23 x1 x2 n x3 (x4 + 1) S else
    (f_Board_doorsOf x4 S).bind fun o1 =>
    if (x2 &&& (o1 ^^^ (-1 : Int32))) = 0 then f_MK_heirs_L23 x1 x2 n (x3 ||| ((1 : Int32) <<< (x4 &&& 31))) (x4 + 1) S else
    f_MK_heirs_L23 x1 x2 n x3 (x4 + 1) S
theorem f_MK_heirs_L23_s (x1 : Int32) (x2 : Int32) (n : Nat) (x3 : Int32) (x4 : Int32) (S : SS) : f_MK_heirs_L23 x1 x2 (n + 1) x3 x4 S =
    if (S.1 2 1) ≤ x4 then some x3 else
    if x4 = x1 then f_MK_heirs_L23 x1 x2 n x3 (x4 + 1) S else
    (f_Board_doorsOf x4 S).bind fun o1 =>
    if (x2 &&& (o1 ^^^ (-1 : Int32))) = 0 then f_MK_heirs_L23 x1 x2 n (x3 ||| ((1 : Int32) <<< (x4 &&& 31))) (x4 + 1) S else
    f_MK_heirs_L23 x1 x2 n x3 (x4 + 1) S := rfl
def f_MK_heirs (a1 : Int32) (S : SS) : Option (Nat ⊕ Int32) :=
  (f_MK_needKey a1 S).bind fun o1 => Sum.elim (fun c6 => some (.inl c6)) (fun o1 =>
  (f_MK_needPlan S).bind fun o2 => Sum.elim (fun c5 => some (.inl c5)) (fun o2 =>
  (f_Board_doorsOf a1 S).bind fun o3 =>
  (f_MK_heirs_L23 a1 o3 FU (0 : Int32) (0 : Int32) S).bind fun v4 =>
  some (.inr v4)) o2) o1
theorem f_MK_heirs_s (a1 : Int32) (S : SS) : f_MK_heirs a1 S =
  (f_MK_needKey a1 S).bind fun o1 => Sum.elim (fun c6 => some (.inl c6)) (fun o1 =>
  (f_MK_needPlan S).bind fun o2 => Sum.elim (fun c5 => some (.inl c5)) (fun o2 =>
  (f_Board_doorsOf a1 S).bind fun o3 =>
  (f_MK_heirs_L23 a1 o3 FU (0 : Int32) (0 : Int32) S).bind fun v4 =>
  some (.inr v4)) o2) o1 := rfl
