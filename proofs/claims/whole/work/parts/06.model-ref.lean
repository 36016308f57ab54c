def f_RM_thrown (S : SS) : Option (Int32) :=
  some (S.1 33 0)
theorem f_RM_thrown_s (S : SS) : f_RM_thrown S =
  some (S.1 33 0) := rfl
def f_RM_key_L29 : Nat → Int32 → SS → Option (SS)
  | 0, _, _ => none
  | n + 1, x1, S =>
    if (6 : Int32) ≤ x1 then some S else
    if oob (((6 : Int32) * (S.1 33 3)) + x1) 48 then none else
    f_RM_key_L29 n (x1 + 1) (wI S 34 (((6 : Int32) * (S.1 33 3)) + x1).toNatClampNeg (vp_nar .boolean (0 : Int32)))
theorem f_RM_key_L29_s (n : Nat) (x1 : Int32) (S : SS) : f_RM_key_L29 (n + 1) x1 S =
    if (6 : Int32) ≤ x1 then some S else
    if oob (((6 : Int32) * (S.1 33 3)) + x1) 48 then none else
    f_RM_key_L29 n (x1 + 1) (wI S 34 (((6 : Int32) * (S.1 33 3)) + x1).toNatClampNeg (vp_nar .boolean (0 : Int32))) := rfl
def f_RM_key (S : SS) : Option (Int32 × SS) :=
  if (S.1 33 3) = (8 : Int32) then some ((0 : Int32), wI S 33 0 (1 : Int32)) else
  (f_RM_key_L29 FU (0 : Int32) (wI S 33 0 (0 : Int32))).bind fun v1 =>
  some (((v1.1 33 3) + (1 : Int32)) - (1 : Int32), wI (wI v1 33 3 ((v1.1 33 3) + (1 : Int32))) 33 9 (0 : Int32))
theorem f_RM_key_s (S : SS) : f_RM_key S =
  if (S.1 33 3) = (8 : Int32) then some ((0 : Int32), wI S 33 0 (1 : Int32)) else
  (f_RM_key_L29 FU (0 : Int32) (wI S 33 0 (0 : Int32))).bind fun v1 =>
  some (((v1.1 33 3) + (1 : Int32)) - (1 : Int32), wI (wI v1 33 3 ((v1.1 33 3) + (1 : Int32))) 33 9 (0 : Int32)) := rfl
def f_RM_door (S : SS) : Option (Int32 × SS) :=
  if (S.1 33 4) = (6 : Int32) then some ((0 : Int32), wI S 33 0 (1 : Int32)) else
  some (((S.1 33 4) + (1 : Int32)) - (1 : Int32), wI (wI (wI S 33 0 (0 : Int32)) 33 4 ((S.1 33 4) + (1 : Int32))) 33 9 (0 : Int32))
theorem f_RM_door_s (S : SS) : f_RM_door S =
  if (S.1 33 4) = (6 : Int32) then some ((0 : Int32), wI S 33 0 (1 : Int32)) else
  some (((S.1 33 4) + (1 : Int32)) - (1 : Int32), wI (wI (wI S 33 0 (0 : Int32)) 33 4 ((S.1 33 4) + (1 : Int32))) 33 9 (0 : Int32)) := rfl
def f_RM_noKey (a1 : Int32) (S : SS) : Option (Int32) :=
  if a1 < 0 then some (1 : Int32) else
  if a1 < (S.1 33 3) then some (0 : Int32) else
  some (1 : Int32)
theorem f_RM_noKey_s (a1 : Int32) (S : SS) : f_RM_noKey a1 S =
  if a1 < 0 then some (1 : Int32) else
  if a1 < (S.1 33 3) then some (0 : Int32) else
  some (1 : Int32) := rfl
def f_RM_noDoor (a1 : Int32) (S : SS) : Option (Int32) :=
  if a1 < 0 then some (1 : Int32) else
  if a1 < (S.1 33 4) then some (0 : Int32) else
  some (1 : Int32)
theorem f_RM_noDoor_s (a1 : Int32) (S : SS) : f_RM_noDoor a1 S =
  if a1 < 0 then some (1 : Int32) else
  if a1 < (S.1 33 4) then some (0 : Int32) else
  some (1 : Int32) := rfl
def f_RM_must (a1 : Int32) (a2 : Int32) (a3 : Int32) (S : SS) : Option (Int32 × SS) :=
  (f_RM_noKey a1 S).bind fun o1 =>
  if o1 = 0 then
    ((f_RM_noDoor a2 S).bind fun o2 =>
    if o2 = 0 then
      (if oob (((6 : Int32) * a1) + a2) 48 then none else
      if (S.1 34 (((6 : Int32) * a1) + a2).toNatClampNeg) = 0 ∨ (S.1 34 (((6 : Int32) * a1) + a2).toNatClampNeg) = 1 then some (S.1 34 (((6 : Int32) * a1) + a2).toNatClampNeg, wI (wI (wI S 33 0 (0 : Int32)) 34 (((6 : Int32) * a1) + a2).toNatClampNeg (vp_nar .boolean a3)) 33 9 (0 : Int32)) else none)
    else
    some ((0 : Int32), wI S 33 0 (1 : Int32)))
  else
  some ((0 : Int32), wI S 33 0 (1 : Int32))
theorem f_RM_must_s (a1 : Int32) (a2 : Int32) (a3 : Int32) (S : SS) : f_RM_must a1 a2 a3 S =
  (f_RM_noKey a1 S).bind fun o1 =>
  if o1 = 0 then
    ((f_RM_noDoor a2 S).bind fun o2 =>
    if o2 = 0 then
      (if oob (((6 : Int32) * a1) + a2) 48 then none else
      if (S.1 34 (((6 : Int32) * a1) + a2).toNatClampNeg) = 0 ∨ (S.1 34 (((6 : Int32) * a1) + a2).toNatClampNeg) = 1 then some (S.1 34 (((6 : Int32) * a1) + a2).toNatClampNeg, wI (wI (wI S 33 0 (0 : Int32)) 34 (((6 : Int32) * a1) + a2).toNatClampNeg (vp_nar .boolean a3)) 33 9 (0 : Int32)) else none)
    else
    some ((0 : Int32), wI S 33 0 (1 : Int32)))
  else
  some ((0 : Int32), wI S 33 0 (1 : Int32)) := rfl
def f_RM_isIn (a0 : Int32) (a1 : Int32) (a2 : Int32) (S : SS) : Option (Int32) :=
  if a0 < a1 then some (0 : Int32) else
  if a2 < a0 then some (0 : Int32) else
  some (1 : Int32)
theorem f_RM_isIn_s (a0 : Int32) (a1 : Int32) (a2 : Int32) (S : SS) : f_RM_isIn a0 a1 a2 S =
  if a0 < a1 then some (0 : Int32) else
  if a2 < a0 then some (0 : Int32) else
  some (1 : Int32) := rfl
def f_RM_step (a1 : Int32) (S : SS) : Option (Int32 × SS) :=
  (f_RM_isIn a1 (0 : Int32) (7 : Int32) S).bind fun o1 =>
  if o1 = 0 then some ((0 : Int32), wI S 33 0 (1 : Int32)) else
  some (S.1 33 6, wI (wI (wI S 33 0 (0 : Int32)) 33 6 a1) 33 9 (0 : Int32))
theorem f_RM_step_s (a1 : Int32) (S : SS) : f_RM_step a1 S =
  (f_RM_isIn a1 (0 : Int32) (7 : Int32) S).bind fun o1 =>
  if o1 = 0 then some ((0 : Int32), wI S 33 0 (1 : Int32)) else
  some (S.1 33 6, wI (wI (wI S 33 0 (0 : Int32)) 33 6 a1) 33 9 (0 : Int32)) := rfl
def f_RM_noDepth (a1 : Int32) (S : SS) : Option (Int32) :=
  if a1 < 0 then some (1 : Int32) else
  if a1 < (S.1 33 2) then some (0 : Int32) else
  some (1 : Int32)
theorem f_RM_noDepth_s (a1 : Int32) (S : SS) : f_RM_noDepth a1 S =
  if a1 < 0 then some (1 : Int32) else
  if a1 < (S.1 33 2) then some (0 : Int32) else
  some (1 : Int32) := rfl
def f_RM_bar (a1 : Int32) (a2 : Int32) (a3 : Int32) (S : SS) : Option (Int32 × SS) :=
  (f_RM_noDepth a1 S).bind fun o1 =>
  if o1 = 0 then
    ((f_RM_noDepth a2 S).bind fun o2 =>
    if o2 = 0 then
      (if oob (((8 : Int32) * a1) + a2) 64 then none else
      if (S.1 35 (((8 : Int32) * a1) + a2).toNatClampNeg) = 0 ∨ (S.1 35 (((8 : Int32) * a1) + a2).toNatClampNeg) = 1 then some (S.1 35 (((8 : Int32) * a1) + a2).toNatClampNeg, wI (wI (wI S 33 0 (0 : Int32)) 35 (((8 : Int32) * a1) + a2).toNatClampNeg (vp_nar .boolean a3)) 33 9 (0 : Int32)) else none)
    else
    some ((0 : Int32), wI S 33 0 (1 : Int32)))
  else
  some ((0 : Int32), wI S 33 0 (1 : Int32))
theorem f_RM_bar_s (a1 : Int32) (a2 : Int32) (a3 : Int32) (S : SS) : f_RM_bar a1 a2 a3 S =
  (f_RM_noDepth a1 S).bind fun o1 =>
  if o1 = 0 then
    ((f_RM_noDepth a2 S).bind fun o2 =>
    if o2 = 0 then
      (if oob (((8 : Int32) * a1) + a2) 64 then none else
      if (S.1 35 (((8 : Int32) * a1) + a2).toNatClampNeg) = 0 ∨ (S.1 35 (((8 : Int32) * a1) + a2).toNatClampNeg) = 1 then some (S.1 35 (((8 : Int32) * a1) + a2).toNatClampNeg, wI (wI (wI S 33 0 (0 : Int32)) 35 (((8 : Int32) * a1) + a2).toNatClampNeg (vp_nar .boolean a3)) 33 9 (0 : Int32)) else none)
    else
    some ((0 : Int32), wI S 33 0 (1 : Int32)))
  else
  some ((0 : Int32), wI S 33 0 (1 : Int32)) := rfl
def f_RM_top (a1 : Int32) (S : SS) : Option (Int32 × SS) :=
  (f_RM_isIn a1 (1 : Int32) (8 : Int32) S).bind fun o1 =>
  if o1 = 0 then some ((0 : Int32), wI S 33 0 (1 : Int32)) else
  some (S.1 33 7, wI (wI (wI S 33 0 (0 : Int32)) 33 7 a1) 33 9 (0 : Int32))
theorem f_RM_top_s (a1 : Int32) (S : SS) : f_RM_top a1 S =
  (f_RM_isIn a1 (1 : Int32) (8 : Int32) S).bind fun o1 =>
  if o1 = 0 then some ((0 : Int32), wI S 33 0 (1 : Int32)) else
  some (S.1 33 7, wI (wI (wI S 33 0 (0 : Int32)) 33 7 a1) 33 9 (0 : Int32)) := rfl
def f_RM_mayStand (a1 : Int32) (a2 : Int32) (S : SS) : Option (Int32) :=
  if a1 ≤ a2 then
    (if (S.1 33 6) < (a2 - a1) then some (0 : Int32) else
    if oob (((8 : Int32) * a1) + a2) 64 then none else
    if (S.1 35 (((8 : Int32) * a1) + a2).toNatClampNeg) = 0 then some (1 : Int32) else
    some (0 : Int32))
  else
  if (S.1 33 6) < (a1 - a2) then some (0 : Int32) else
  if oob (((8 : Int32) * a1) + a2) 64 then none else
  if (S.1 35 (((8 : Int32) * a1) + a2).toNatClampNeg) = 0 then some (1 : Int32) else
  some (0 : Int32)
theorem f_RM_mayStand_s (a1 : Int32) (a2 : Int32) (S : SS) : f_RM_mayStand a1 a2 S =
  if a1 ≤ a2 then
    (if (S.1 33 6) < (a2 - a1) then some (0 : Int32) else
    if oob (((8 : Int32) * a1) + a2) 64 then none else
    if (S.1 35 (((8 : Int32) * a1) + a2).toNatClampNeg) = 0 then some (1 : Int32) else
    some (0 : Int32))
  else
  if (S.1 33 6) < (a1 - a2) then some (0 : Int32) else
  if oob (((8 : Int32) * a1) + a2) 64 then none else
  if (S.1 35 (((8 : Int32) * a1) + a2).toNatClampNeg) = 0 then some (1 : Int32) else
  some (0 : Int32) := rfl
def f_RM_isAlike_L5 (x1 : Int32) (x2 : Int32) : Nat → Int32 → Int32 → SS → Option (Int32)
  | 0, _, _, _ => none
  | n + 1, x3, x4, S =>
    if (S.1 33 1) ≤ x4 then some x3 else
    if x3 = 0 then f_RM_isAlike_L5 x1 x2 n (0 : Int32) (x4 + 1) S else
    if oob (((S.1 33 1) * x1) + x4) 48 then none else
    if oob (((S.1 33 1) * x2) + x4) 48 then none else
    if (S.1 36 (((S.1 33 1) * x1) + x4).toNatClampNeg) = (S.1 36 (((S.1 33 1) * x2) + x4).toNatClampNeg) then f_RM_isAlike_L5 x1 x2 n (1 : Int32) (x4 + 1) S else
    f_RM_isAlike_L5 x1 x2 n (0 : Int32) (x4 + 1) S
theorem f_RM_isAlike_L5_s (x1 : Int32) (x2 : Int32) (n : Nat) (x3 : Int32) (x4 : Int32) (S : SS) : f_RM_isAlike_L5 x1 x2 (n + 1) x3 x4 S =
    if (S.1 33 1) ≤ x4 then some x3 else
    if x3 = 0 then f_RM_isAlike_L5 x1 x2 n (0 : Int32) (x4 + 1) S else
    if oob (((S.1 33 1) * x1) + x4) 48 then none else
    if oob (((S.1 33 1) * x2) + x4) 48 then none else
    if (S.1 36 (((S.1 33 1) * x1) + x4).toNatClampNeg) = (S.1 36 (((S.1 33 1) * x2) + x4).toNatClampNeg) then f_RM_isAlike_L5 x1 x2 n (1 : Int32) (x4 + 1) S else
    f_RM_isAlike_L5 x1 x2 n (0 : Int32) (x4 + 1) S := rfl
def f_RM_isAlike (a1 : Int32) (a2 : Int32) (S : SS) : Option (Int32) :=
  (f_RM_isAlike_L5 a1 a2 FU (1 : Int32) (0 : Int32) S).bind fun v1 =>
  if v1 = 0 ∨ v1 = 1 then some v1 else none
theorem f_RM_isAlike_s (a1 : Int32) (a2 : Int32) (S : SS) : f_RM_isAlike a1 a2 S =
  (f_RM_isAlike_L5 a1 a2 FU (1 : Int32) (0 : Int32) S).bind fun v1 =>
  if v1 = 0 ∨ v1 = 1 then some v1 else none := rfl
def f_RM_isHeld_L6 (x1 : Int32) (x2 : Int32) (x3 : Int32) (x4 : Int32) : Nat → Int32 → Int32 → SS → Option (Int32)
  | 0, _, _, _ => none
  | n + 1, x5, x6, S =>
    if x1 ≤ x6 then some x5 else
    if x5 = 0 then
      (if oob (((6 : Int32) * x6) + x2) 48 then none else
      if (S.1 34 (((6 : Int32) * x6) + x2).toNatClampNeg) = 0 then f_RM_isHeld_L6 x1 x2 x3 x4 n (0 : Int32) (x6 + 1) S else
      if oob (((S.1 33 1) * x6) + x3) 48 then none else
      if (S.1 36 (((S.1 33 1) * x6) + x3).toNatClampNeg) = x4 then f_RM_isHeld_L6 x1 x2 x3 x4 n (1 : Int32) (x6 + 1) S else
      f_RM_isHeld_L6 x1 x2 x3 x4 n (0 : Int32) (x6 + 1) S)
    else
    f_RM_isHeld_L6 x1 x2 x3 x4 n (1 : Int32) (x6 + 1) S
theorem f_RM_isHeld_L6_s (x1 : Int32) (x2 : Int32) (x3 : Int32) (x4 : Int32) (n : Nat) (x5 : Int32) (x6 : Int32) (S : SS) : f_RM_isHeld_L6 x1 x2 x3 x4 (n + 1) x5 x6 S =
    if x1 ≤ x6 then some x5 else
    if x5 = 0 then
      (if oob (((6 : Int32) * x6) + x2) 48 then none else
      if (S.1 34 (((6 : Int32) * x6) + x2).toNatClampNeg) = 0 then f_RM_isHeld_L6 x1 x2 x3 x4 n (0 : Int32) (x6 + 1) S else
      if oob (((S.1 33 1) * x6) + x3) 48 then none else
      if (S.1 36 (((S.1 33 1) * x6) + x3).toNatClampNeg) = x4 then f_RM_isHeld_L6 x1 x2 x3 x4 n (1 : Int32) (x6 + 1) S else
      f_RM_isHeld_L6 x1 x2 x3 x4 n (0 : Int32) (x6 + 1) S)
    else
    f_RM_isHeld_L6 x1 x2 x3 x4 n (1 : Int32) (x6 + 1) S := rfl
def f_RM_isHeld (a1 : Int32) (a2 : Int32) (a3 : Int32) (a4 : Int32) (S : SS) : Option (Int32) :=
  (f_RM_isHeld_L6 a1 a2 a3 a4 FU (0 : Int32) (0 : Int32) S).bind fun v1 =>
  if v1 = 0 ∨ v1 = 1 then some v1 else none
theorem f_RM_isHeld_s (a1 : Int32) (a2 : Int32) (a3 : Int32) (a4 : Int32) (S : SS) : f_RM_isHeld a1 a2 a3 a4 S =
  (f_RM_isHeld_L6 a1 a2 a3 a4 FU (0 : Int32) (0 : Int32) S).bind fun v1 =>
  if v1 = 0 ∨ v1 = 1 then some v1 else none := rfl
def f_RM_isFitting_L6 (x1 : Int32) (x2 : Int32) (x3 : Int32) : Nat → Int32 → Int32 → SS → Option (Int32)
  | 0, _, _, _ => none
  | n + 1, x4, x5, S =>
    if (S.1 33 1) ≤ x5 then some x4 else
    if x4 = 0 then f_RM_isFitting_L6 x1 x2 x3 n (0 : Int32) (x5 + 1) S else
    if oob (((S.1 33 1) * x2) + x5) 48 then none else
    (f_RM_isHeld x1 x3 x5 (S.1 36 (((S.1 33 1) * x2) + x5).toNatClampNeg) S).bind fun o2 =>
    if o2 = 0 then f_RM_isFitting_L6 x1 x2 x3 n (0 : Int32) (x5 + 1) S else
    f_RM_isFitting_L6 x1 x2 x3 n (1 : Int32) (x5 + 1) S
theorem f_RM_isFitting_L6_s (x1 : Int32) (x2 : Int32) (x3 : Int32) (n : Nat) (x4 : Int32) (x5 : Int32) (S : SS) : f_RM_isFitting_L6 x1 x2 x3 (n + 1) x4 x5 S =
    if (S.1 33 1) ≤ x5 then some x4 else
    if x4 = 0 then f_RM_isFitting_L6 x1 x2 x3 n (0 : Int32) (x5 + 1) S else
    if oob (((S.1 33 1) * x2) + x5) 48 then none else
    (f_RM_isHeld x1 x3 x5 (S.1 36 (((S.1 33 1) * x2) + x5).toNatClampNeg) S).bind fun o2 =>
    if o2 = 0 then f_RM_isFitting_L6 x1 x2 x3 n (0 : Int32) (x5 + 1) S else
    f_RM_isFitting_L6 x1 x2 x3 n (1 : Int32) (x5 + 1) S := rfl
def f_RM_isFitting (a1 : Int32) (a2 : Int32) (a3 : Int32) (S : SS) : Option (Int32) :=
  (f_RM_isFitting_L6 a1 a2 a3 FU (1 : Int32) (0 : Int32) S).bind fun v1 =>
  if v1 = 0 ∨ v1 = 1 then some v1 else none
theorem f_RM_isFitting_s (a1 : Int32) (a2 : Int32) (a3 : Int32) (S : SS) : f_RM_isFitting a1 a2 a3 S =
  (f_RM_isFitting_L6 a1 a2 a3 FU (1 : Int32) (0 : Int32) S).bind fun v1 =>
  if v1 = 0 ∨ v1 = 1 then some v1 else none := rfl
def f_RM_areGood_L2 (x1 : Int32) : Nat → Int32 → SS → Option (Int32 ⊕ Unit)
  | 0, _, _ => none
  | n + 1, x2, S =>
    if (x1 - (1 : Int32)) ≤ x2 then some (.inr ()) else
    (f_RM_isAlike x2 (x1 - (1 : Int32)) S).bind fun o1 =>
    if o1 = 0 then f_RM_areGood_L2 x1 n (x2 + 1) S else
    some (.inl (0 : Int32))
theorem f_RM_areGood_L2_s (x1 : Int32) (n : Nat) (x2 : Int32) (S : SS) : f_RM_areGood_L2 x1 (n + 1) x2 S =
    if (x1 - (1 : Int32)) ≤ x2 then some (.inr ()) else
    (f_RM_isAlike x2 (x1 - (1 : Int32)) S).bind fun o1 =>
    if o1 = 0 then f_RM_areGood_L2 x1 n (x2 + 1) S else
    some (.inl (0 : Int32)) := rfl
def f_RM_areGood_L54 (x1 : Int32) (x2 : Int32) (x3 : Int32) : Nat → Int32 → Int32 → SS → Option (Int32)
  | 0, _, _, _ => none
  | n + 1, x4, x5, S =>
    if (S.1 33 2) ≤ x5 then some x4 else
    (f_RM_isHeld x1 x2 x3 x5 S).bind fun o1 =>
    if o1 = 0 then f_RM_areGood_L54 x1 x2 x3 n (x4 + (0 : Int32)) (x5 + 1) S else
    f_RM_areGood_L54 x1 x2 x3 n (x4 + (1 : Int32)) (x5 + 1) S
theorem f_RM_areGood_L54_s (x1 : Int32) (x2 : Int32) (x3 : Int32) (n : Nat) (x4 : Int32) (x5 : Int32) (S : SS) : f_RM_areGood_L54 x1 x2 x3 (n + 1) x4 x5 S =
    if (S.1 33 2) ≤ x5 then some x4 else
    (f_RM_isHeld x1 x2 x3 x5 S).bind fun o1 =>
    if o1 = 0 then f_RM_areGood_L54 x1 x2 x3 n (x4 + (0 : Int32)) (x5 + 1) S else
    f_RM_areGood_L54 x1 x2 x3 n (x4 + (1 : Int32)) (x5 + 1) S := rfl
def f_RM_areGood_L40 (x1 : Int32) (x2 : Int32) : Nat → Int32 → SS → Option (Int32 ⊕ Unit)
  | 0, _, _ => none
  | n + 1, x3, S =>
    if (S.1 33 1) ≤ x3 then some (.inr ()) else
    (f_RM_areGood_L54 x1 x2 x3 FU (0 : Int32) (0 : Int32) S).bind fun v1 =>
    if v1 ≤ (S.1 33 7) then f_RM_areGood_L40 x1 x2 n (x3 + 1) S else
    some (.inl (0 : Int32))
theorem f_RM_areGood_L40_s (x1 : Int32) (x2 : Int32) (n : Nat) (x3 : Int32) (S : SS) : f_RM_areGood_L40 x1 x2 (n + 1) x3 S =
    if (S.1 33 1) ≤ x3 then some (.inr ()) else
    (f_RM_areGood_L54 x1 x2 x3 FU (0 : Int32) (0 : Int32) S).bind fun v1 =>
    if v1 ≤ (S.1 33 7) then f_RM_areGood_L40 x1 x2 n (x3 + 1) S else
    some (.inl (0 : Int32)) := rfl
def f_RM_areGood_L110 (x1 : Int32) (x2 : Int32) : Nat → Int32 → SS → Option (Int32 ⊕ Unit)
  | 0, _, _ => none
  | n + 1, x3, S =>
    if x1 ≤ x3 then some (.inr ()) else
    if oob (((6 : Int32) * x3) + x2) 48 then none else
    if (S.1 34 (((6 : Int32) * x3) + x2).toNatClampNeg) = 0 then
      ((f_RM_isFitting x1 x3 x2 S).bind fun o2 =>
      if o2 = 0 then f_RM_areGood_L110 x1 x2 n (x3 + 1) S else
      some (.inl (0 : Int32)))
    else
    f_RM_areGood_L110 x1 x2 n (x3 + 1) S
theorem f_RM_areGood_L110_s (x1 : Int32) (x2 : Int32) (n : Nat) (x3 : Int32) (S : SS) : f_RM_areGood_L110 x1 x2 (n + 1) x3 S =
    if x1 ≤ x3 then some (.inr ()) else
    if oob (((6 : Int32) * x3) + x2) 48 then none else
    if (S.1 34 (((6 : Int32) * x3) + x2).toNatClampNeg) = 0 then
      ((f_RM_isFitting x1 x3 x2 S).bind fun o2 =>
      if o2 = 0 then f_RM_areGood_L110 x1 x2 n (x3 + 1) S else
      some (.inl (0 : Int32)))
    else
    f_RM_areGood_L110 x1 x2 n (x3 + 1) S := rfl
def f_RM_areGood_L30 (x1 : Int32) : Nat → Int32 → SS → Option (Int32 ⊕ Unit)
  | 0, _, _ => none
  | n + 1, x2, S =>
    if (S.1 33 4) ≤ x2 then some (.inr ()) else
    (f_RM_areGood_L40 x1 x2 FU (0 : Int32) S).bind fun v1 => Sum.elim (fun r2 => some (.inl r2)) (fun v1 =>
    (f_RM_areGood_L110 x1 x2 FU (0 : Int32) S).bind fun v3 => Sum.elim (fun r4 => some (.inl r4)) (fun v3 =>
    f_RM_areGood_L30 x1 n (x2 + 1) S) v3) v1
theorem f_RM_areGood_L30_s (x1 : Int32) (n : Nat) (x2 : Int32) (S : SS) : f_RM_areGood_L30 x1 (n + 1) x2 S =
    if (S.1 33 4) ≤ x2 then some (.inr ()) else
    (f_RM_areGood_L40 x1 x2 FU (0 : Int32) S).bind fun v1 => Sum.elim (fun r2 => some (.inl r2)) (fun v1 =>
    (f_RM_areGood_L110 x1 x2 FU (0 : Int32) S).bind fun v3 => Sum.elim (fun r4 => some (.inl r4)) (fun v3 =>
    f_RM_areGood_L30 x1 n (x2 + 1) S) v3) v1 := rfl
def f_RM_areGood (a1 : Int32) (S : SS) : Option (Int32) :=
  (f_RM_areGood_L2 a1 FU (0 : Int32) S).bind fun v1 => Sum.elim (fun r2 => some r2) (fun v1 =>
  (f_RM_areGood_L30 a1 FU (0 : Int32) S).bind fun v3 => Sum.elim (fun r4 => some r4) (fun v3 =>
  some (1 : Int32)) v3) v1
theorem f_RM_areGood_s (a1 : Int32) (S : SS) : f_RM_areGood a1 S =
  (f_RM_areGood_L2 a1 FU (0 : Int32) S).bind fun v1 => Sum.elim (fun r2 => some r2) (fun v1 =>
  (f_RM_areGood_L30 a1 FU (0 : Int32) S).bind fun v3 => Sum.elim (fun r4 => some r4) (fun v3 =>
  some (1 : Int32)) v3) v1 := rfl
def f_RM_run_L58 (x1 : Int32) : Nat → Int32 → SS → Option ((Int32 × SS) ⊕ (Int32 × SS))
  | 0, _, _ => none
  | n + 1, x2, S =>
    if x2 < 0 then some (.inr (x2, S)) else
    if ((S.1 33 1) * (S.1 33 3)) ≤ x2 then some (.inr (x2, S)) else
    if oob x2 48 then none else
    if ((wI S 36 x2.toNatClampNeg ((S.1 36 x2.toNatClampNeg) + (1 : Int32))).1 36 x2.toNatClampNeg) = (S.1 33 2) then f_RM_run_L58 x1 n (x2 + (-1)) (wI S 36 x2.toNatClampNeg ((S.1 36 x2.toNatClampNeg) + (1 : Int32))) else
    if (S.1 33 10) = x1 then some (.inl ((2 : Int32), wI S 36 x2.toNatClampNeg ((S.1 36 x2.toNatClampNeg) + (1 : Int32)))) else
    if (S.1 33 1) = 0 then none else
    if (x2 - x2 / (S.1 33 1) * (S.1 33 1)) = 0 then
      (if (x2 - x2 / (S.1 33 1) * (S.1 33 1)) < ((S.1 33 1) - (1 : Int32)) then
        (if ((S.1 33 1) * (S.1 33 3)) ≤ (x2 + (1 : Int32)) then f_RM_run_L58 x1 n (x2 + (1 : Int32)) (wI (wI S 36 x2.toNatClampNeg ((S.1 36 x2.toNatClampNeg) + (1 : Int32))) 33 10 ((S.1 33 10) + (1 : Int32))) else
        if oob (x2 + (1 : Int32)) 48 then none else
        f_RM_run_L58 x1 n (x2 + (1 : Int32)) (wI (wI (wI S 36 x2.toNatClampNeg ((S.1 36 x2.toNatClampNeg) + (1 : Int32))) 33 10 ((S.1 33 10) + (1 : Int32))) 36 (x2 + (1 : Int32)).toNatClampNeg (-1 : Int32)))
      else
      (f_RM_areGood ((x2 / (S.1 33 1)) + (1 : Int32)) (wI (wI S 36 x2.toNatClampNeg ((S.1 36 x2.toNatClampNeg) + (1 : Int32))) 33 10 ((S.1 33 10) + (1 : Int32)))).bind fun o4 =>
      if o4 = 0 then f_RM_run_L58 x1 n x2 (wI (wI S 36 x2.toNatClampNeg ((S.1 36 x2.toNatClampNeg) + (1 : Int32))) 33 10 ((S.1 33 10) + (1 : Int32))) else
      if ((S.1 33 1) * (S.1 33 3)) ≤ (x2 + (1 : Int32)) then f_RM_run_L58 x1 n (x2 + (1 : Int32)) (wI (wI S 36 x2.toNatClampNeg ((S.1 36 x2.toNatClampNeg) + (1 : Int32))) 33 10 ((S.1 33 10) + (1 : Int32))) else
      if oob (x2 + (1 : Int32)) 48 then none else
      f_RM_run_L58 x1 n (x2 + (1 : Int32)) (wI (wI (wI S 36 x2.toNatClampNeg ((S.1 36 x2.toNatClampNeg) + (1 : Int32))) 33 10 ((S.1 33 10) + (1 : Int32))) 36 (x2 + (1 : Int32)).toNatClampNeg (-1 : Int32)))
    else
    if oob (x2 - (1 : Int32)) 48 then none else
    (f_RM_mayStand ((wI S 36 x2.toNatClampNeg ((S.1 36 x2.toNatClampNeg) + (1 : Int32))).1 36 (x2 - (1 : Int32)).toNatClampNeg) ((wI S 36 x2.toNatClampNeg ((S.1 36 x2.toNatClampNeg) + (1 : Int32))).1 36 x2.toNatClampNeg) (wI (wI S 36 x2.toNatClampNeg ((S.1 36 x2.toNatClampNeg) + (1 : Int32))) 33 10 ((S.1 33 10) + (1 : Int32)))).bind fun o7 =>
    if o7 = 0 then f_RM_run_L58 x1 n x2 (wI (wI S 36 x2.toNatClampNeg ((S.1 36 x2.toNatClampNeg) + (1 : Int32))) 33 10 ((S.1 33 10) + (1 : Int32))) else
    if (x2 - x2 / (S.1 33 1) * (S.1 33 1)) < ((S.1 33 1) - (1 : Int32)) then
      (if ((S.1 33 1) * (S.1 33 3)) ≤ (x2 + (1 : Int32)) then f_RM_run_L58 x1 n (x2 + (1 : Int32)) (wI (wI S 36 x2.toNatClampNeg ((S.1 36 x2.toNatClampNeg) + (1 : Int32))) 33 10 ((S.1 33 10) + (1 : Int32))) else
      if oob (x2 + (1 : Int32)) 48 then none else
      f_RM_run_L58 x1 n (x2 + (1 : Int32)) (wI (wI (wI S 36 x2.toNatClampNeg ((S.1 36 x2.toNatClampNeg) + (1 : Int32))) 33 10 ((S.1 33 10) + (1 : Int32))) 36 (x2 + (1 : Int32)).toNatClampNeg (-1 : Int32)))
    else
    (f_RM_areGood ((x2 / (S.1 33 1)) + (1 : Int32)) (wI (wI S 36 x2.toNatClampNeg ((S.1 36 x2.toNatClampNeg) + (1 : Int32))) 33 10 ((S.1 33 10) + (1 : Int32)))).bind fun o9 =>
    if o9 = 0 then f_RM_run_L58 x1 n x2 (wI (wI S 36 x2.toNatClampNeg ((S.1 36 x2.toNatClampNeg) + (1 : Int32))) 33 10 ((S.1 33 10) + (1 : Int32))) else
    if ((S.1 33 1) * (S.1 33 3)) ≤ (x2 + (1 : Int32)) then f_RM_run_L58 x1 n (x2 + (1 : Int32)) (wI (wI S 36 x2.toNatClampNeg ((S.1 36 x2.toNatClampNeg) + (1 : Int32))) 33 10 ((S.1 33 10) + (1 : Int32))) else
    if oob (x2 + (1 : Int32)) 48 then none else
    f_RM_run_L58 x1 n (x2 + (1 : Int32)) (wI (wI (wI S 36 x2.toNatClampNeg ((S.1 36 x2.toNatClampNeg) + (1 : Int32))) 33 10 ((S.1 33 10) + (1 : Int32))) 36 (x2 + (1 : Int32)).toNatClampNeg (-1 : Int32))
theorem f_RM_run_L58_s (x1 : Int32) (n : Nat) (x2 : Int32) (S : SS) : f_RM_run_L58 x1 (n + 1) x2 S =
    if x2 < 0 then some (.inr (x2, S)) else
    if ((S.1 33 1) * (S.1 33 3)) ≤ x2 then some (.inr (x2, S)) else
    if oob x2 48 then none else
    if ((wI S 36 x2.toNatClampNeg ((S.1 36 x2.toNatClampNeg) + (1 : Int32))).1 36 x2.toNatClampNeg) = (S.1 33 2) then f_RM_run_L58 x1 n (x2 + (-1)) (wI S 36 x2.toNatClampNeg ((S.1 36 x2.toNatClampNeg) + (1 : Int32))) else
    if (S.1 33 10) = x1 then some (.inl ((2 : Int32), wI S 36 x2.toNatClampNeg ((S.1 36 x2.toNatClampNeg) + (1 : Int32)))) else
    if (S.1 33 1) = 0 then none else
    if (x2 - x2 / (S.1 33 1) * (S.1 33 1)) = 0 then
      (if (x2 - x2 / (S.1 33 1) * (S.1 33 1)) < ((S.1 33 1) - (1 : Int32)) then
        (if ((S.1 33 1) * (S.1 33 3)) ≤ (x2 + (1 : Int32)) then f_RM_run_L58 x1 n (x2 + (1 : Int32)) (wI (wI S 36 x2.toNatClampNeg ((S.1 36 x2.toNatClampNeg) + (1 : Int32))) 33 10 ((S.1 33 10) + (1 : Int32))) else
        if oob (x2 + (1 : Int32)) 48 then none else
        f_RM_run_L58 x1 n (x2 + (1 : Int32)) (wI (wI (wI S 36 x2.toNatClampNeg ((S.1 36 x2.toNatClampNeg) + (1 : Int32))) 33 10 ((S.1 33 10) + (1 : Int32))) 36 (x2 + (1 : Int32)).toNatClampNeg (-1 : Int32)))
      else
      (f_RM_areGood ((x2 / (S.1 33 1)) + (1 : Int32)) (wI (wI S 36 x2.toNatClampNeg ((S.1 36 x2.toNatClampNeg) + (1 : Int32))) 33 10 ((S.1 33 10) + (1 : Int32)))).bind fun o4 =>
      if o4 = 0 then f_RM_run_L58 x1 n x2 (wI (wI S 36 x2.toNatClampNeg ((S.1 36 x2.toNatClampNeg) + (1 : Int32))) 33 10 ((S.1 33 10) + (1 : Int32))) else
      if ((S.1 33 1) * (S.1 33 3)) ≤ (x2 + (1 : Int32)) then f_RM_run_L58 x1 n (x2 + (1 : Int32)) (wI (wI S 36 x2.toNatClampNeg ((S.1 36 x2.toNatClampNeg) + (1 : Int32))) 33 10 ((S.1 33 10) + (1 : Int32))) else
      if oob (x2 + (1 : Int32)) 48 then none else
      f_RM_run_L58 x1 n (x2 + (1 : Int32)) (wI (wI (wI S 36 x2.toNatClampNeg ((S.1 36 x2.toNatClampNeg) + (1 : Int32))) 33 10 ((S.1 33 10) + (1 : Int32))) 36 (x2 + (1 : Int32)).toNatClampNeg (-1 : Int32)))
    else
    if oob (x2 - (1 : Int32)) 48 then none else
    (f_RM_mayStand ((wI S 36 x2.toNatClampNeg ((S.1 36 x2.toNatClampNeg) + (1 : Int32))).1 36 (x2 - (1 : Int32)).toNatClampNeg) ((wI S 36 x2.toNatClampNeg ((S.1 36 x2.toNatClampNeg) + (1 : Int32))).1 36 x2.toNatClampNeg) (wI (wI S 36 x2.toNatClampNeg ((S.1 36 x2.toNatClampNeg) + (1 : Int32))) 33 10 ((S.1 33 10) + (1 : Int32)))).bind fun o7 =>
    if o7 = 0 then f_RM_run_L58 x1 n x2 (wI (wI S 36 x2.toNatClampNeg ((S.1 36 x2.toNatClampNeg) + (1 : Int32))) 33 10 ((S.1 33 10) + (1 : Int32))) else
    if (x2 - x2 / (S.1 33 1) * (S.1 33 1)) < ((S.1 33 1) - (1 : Int32)) then
      (if ((S.1 33 1) * (S.1 33 3)) ≤ (x2 + (1 : Int32)) then f_RM_run_L58 x1 n (x2 + (1 : Int32)) (wI (wI S 36 x2.toNatClampNeg ((S.1 36 x2.toNatClampNeg) + (1 : Int32))) 33 10 ((S.1 33 10) + (1 : Int32))) else
      if oob (x2 + (1 : Int32)) 48 then none else
      f_RM_run_L58 x1 n (x2 + (1 : Int32)) (wI (wI (wI S 36 x2.toNatClampNeg ((S.1 36 x2.toNatClampNeg) + (1 : Int32))) 33 10 ((S.1 33 10) + (1 : Int32))) 36 (x2 + (1 : Int32)).toNatClampNeg (-1 : Int32)))
    else
    (f_RM_areGood ((x2 / (S.1 33 1)) + (1 : Int32)) (wI (wI S 36 x2.toNatClampNeg ((S.1 36 x2.toNatClampNeg) + (1 : Int32))) 33 10 ((S.1 33 10) + (1 : Int32)))).bind fun o9 =>
    if o9 = 0 then f_RM_run_L58 x1 n x2 (wI (wI S 36 x2.toNatClampNeg ((S.1 36 x2.toNatClampNeg) + (1 : Int32))) 33 10 ((S.1 33 10) + (1 : Int32))) else
    if ((S.1 33 1) * (S.1 33 3)) ≤ (x2 + (1 : Int32)) then f_RM_run_L58 x1 n (x2 + (1 : Int32)) (wI (wI S 36 x2.toNatClampNeg ((S.1 36 x2.toNatClampNeg) + (1 : Int32))) 33 10 ((S.1 33 10) + (1 : Int32))) else
    if oob (x2 + (1 : Int32)) 48 then none else
    f_RM_run_L58 x1 n (x2 + (1 : Int32)) (wI (wI (wI S 36 x2.toNatClampNeg ((S.1 36 x2.toNatClampNeg) + (1 : Int32))) 33 10 ((S.1 33 10) + (1 : Int32))) 36 (x2 + (1 : Int32)).toNatClampNeg (-1 : Int32)) := rfl
def f_RM_run (a1 : Int32) (S : SS) : Option (Int32 × SS) :=
  (f_RM_isIn a1 (0 : Int32) (200000 : Int32) S).bind fun o1 =>
  if o1 = 0 then some ((0 : Int32), wI S 33 0 (1 : Int32)) else
  if (S.1 33 3) = 0 then some ((0 : Int32), wI S 33 0 (2 : Int32)) else
  if oob (0 : Int32) 48 then none else
  (f_RM_run_L58 a1 FU (0 : Int32) (wI (wI (wI (wI S 33 0 (0 : Int32)) 33 9 (0 : Int32)) 33 10 (0 : Int32)) 36 (0 : Int32).toNatClampNeg (-1 : Int32))).bind fun v3 => Sum.elim (fun r4 => some r4) (fun v3 =>
  if v3.1 < 0 then some ((0 : Int32), wI v3.2 33 9 (0 : Int32)) else
  some ((1 : Int32), wI v3.2 33 9 (1 : Int32))) v3
theorem f_RM_run_s (a1 : Int32) (S : SS) : f_RM_run a1 S =
  (f_RM_isIn a1 (0 : Int32) (200000 : Int32) S).bind fun o1 =>
  if o1 = 0 then some ((0 : Int32), wI S 33 0 (1 : Int32)) else
  if (S.1 33 3) = 0 then some ((0 : Int32), wI S 33 0 (2 : Int32)) else
  if oob (0 : Int32) 48 then none else
  (f_RM_run_L58 a1 FU (0 : Int32) (wI (wI (wI (wI S 33 0 (0 : Int32)) 33 9 (0 : Int32)) 33 10 (0 : Int32)) 36 (0 : Int32).toNatClampNeg (-1 : Int32))).bind fun v3 => Sum.elim (fun r4 => some r4) (fun v3 =>
  if v3.1 < 0 then some ((0 : Int32), wI v3.2 33 9 (0 : Int32)) else
  some ((1 : Int32), wI v3.2 33 9 (1 : Int32))) v3 := rfl
def f_RM_tries (S : SS) : Option (Int32 × SS) :=
  some (S.1 33 10, wI S 33 0 (0 : Int32))
theorem f_RM_tries_s (S : SS) : f_RM_tries S =
  some (S.1 33 10, wI S 33 0 (0 : Int32)) := rfl
def f_RM_noPin (a1 : Int32) (S : SS) : Option (Int32) :=
  if a1 < 0 then some (1 : Int32) else
  if a1 < (S.1 33 1) then some (0 : Int32) else
  some (1 : Int32)
theorem f_RM_noPin_s (a1 : Int32) (S : SS) : f_RM_noPin a1 S =
  if a1 < 0 then some (1 : Int32) else
  if a1 < (S.1 33 1) then some (0 : Int32) else
  some (1 : Int32) := rfl
def f_RM_cut (a1 : Int32) (a2 : Int32) (S : SS) : Option (Int32 × SS) :=
  (f_RM_noKey a1 S).bind fun o1 =>
  if o1 = 0 then
    ((f_RM_noPin a2 S).bind fun o2 =>
    if o2 = 0 then
      (if (S.1 33 9) = 0 then some ((-1 : Int32), wI S 33 0 (0 : Int32)) else
      if oob (((S.1 33 1) * a1) + a2) 48 then none else
      some (S.1 36 (((S.1 33 1) * a1) + a2).toNatClampNeg, wI S 33 0 (0 : Int32)))
    else
    some ((0 : Int32), wI S 33 0 (1 : Int32)))
  else
  some ((0 : Int32), wI S 33 0 (1 : Int32))
theorem f_RM_cut_s (a1 : Int32) (a2 : Int32) (S : SS) : f_RM_cut a1 a2 S =
  (f_RM_noKey a1 S).bind fun o1 =>
  if o1 = 0 then
    ((f_RM_noPin a2 S).bind fun o2 =>
    if o2 = 0 then
      (if (S.1 33 9) = 0 then some ((-1 : Int32), wI S 33 0 (0 : Int32)) else
      if oob (((S.1 33 1) * a1) + a2) 48 then none else
      some (S.1 36 (((S.1 33 1) * a1) + a2).toNatClampNeg, wI S 33 0 (0 : Int32)))
    else
    some ((0 : Int32), wI S 33 0 (1 : Int32)))
  else
  some ((0 : Int32), wI S 33 0 (1 : Int32)) := rfl
def f_RM_holds (a1 : Int32) (a2 : Int32) (a3 : Int32) (S : SS) : Option (Int32 × SS) :=
  (f_RM_noDoor a1 S).bind fun o1 =>
  if o1 = 0 then
    ((f_RM_noPin a2 S).bind fun o2 =>
    if o2 = 0 then
      ((f_RM_noDepth a3 S).bind fun o3 =>
      if o3 = 0 then
        (if (S.1 33 9) = 0 then some ((0 : Int32), wI S 33 0 (0 : Int32)) else
        (f_RM_isHeld (S.1 33 3) a1 a2 a3 (wI S 33 0 (0 : Int32))).bind fun o4 =>
        if o4 = 0 then some ((0 : Int32), wI S 33 0 (0 : Int32)) else
        some ((1 : Int32), wI S 33 0 (0 : Int32)))
      else
      some ((0 : Int32), wI S 33 0 (1 : Int32)))
    else
    some ((0 : Int32), wI S 33 0 (1 : Int32)))
  else
  some ((0 : Int32), wI S 33 0 (1 : Int32))
theorem f_RM_holds_s (a1 : Int32) (a2 : Int32) (a3 : Int32) (S : SS) : f_RM_holds a1 a2 a3 S =
  (f_RM_noDoor a1 S).bind fun o1 =>
  if o1 = 0 then
    ((f_RM_noPin a2 S).bind fun o2 =>
    if o2 = 0 then
      ((f_RM_noDepth a3 S).bind fun o3 =>
      if o3 = 0 then
        (if (S.1 33 9) = 0 then some ((0 : Int32), wI S 33 0 (0 : Int32)) else
        (f_RM_isHeld (S.1 33 3) a1 a2 a3 (wI S 33 0 (0 : Int32))).bind fun o4 =>
        if o4 = 0 then some ((0 : Int32), wI S 33 0 (0 : Int32)) else
        some ((1 : Int32), wI S 33 0 (0 : Int32)))
      else
      some ((0 : Int32), wI S 33 0 (1 : Int32)))
    else
    some ((0 : Int32), wI S 33 0 (1 : Int32)))
  else
  some ((0 : Int32), wI S 33 0 (1 : Int32)) := rfl
def f_RM_fits (a1 : Int32) (a2 : Int32) (S : SS) : Option (Int32 × SS) :=
  (f_RM_noKey a1 S).bind fun o1 =>
  if o1 = 0 then
    ((f_RM_noDoor a2 S).bind fun o2 =>
    if o2 = 0 then
      (if (S.1 33 9) = 0 then some ((0 : Int32), wI S 33 0 (0 : Int32)) else
      (f_RM_isFitting (S.1 33 3) a1 a2 (wI S 33 0 (0 : Int32))).bind fun o3 =>
      if o3 = 0 then some ((0 : Int32), wI S 33 0 (0 : Int32)) else
      some ((1 : Int32), wI S 33 0 (0 : Int32)))
    else
    some ((0 : Int32), wI S 33 0 (1 : Int32)))
  else
  some ((0 : Int32), wI S 33 0 (1 : Int32))
theorem f_RM_fits_s (a1 : Int32) (a2 : Int32) (S : SS) : f_RM_fits a1 a2 S =
  (f_RM_noKey a1 S).bind fun o1 =>
  if o1 = 0 then
    ((f_RM_noDoor a2 S).bind fun o2 =>
    if o2 = 0 then
      (if (S.1 33 9) = 0 then some ((0 : Int32), wI S 33 0 (0 : Int32)) else
      (f_RM_isFitting (S.1 33 3) a1 a2 (wI S 33 0 (0 : Int32))).bind fun o3 =>
      if o3 = 0 then some ((0 : Int32), wI S 33 0 (0 : Int32)) else
      some ((1 : Int32), wI S 33 0 (0 : Int32)))
    else
    some ((0 : Int32), wI S 33 0 (1 : Int32)))
  else
  some ((0 : Int32), wI S 33 0 (1 : Int32)) := rfl
def f_RM_wrong_L28 (x2 : Int32) : Nat → Int32 → Int32 → SS → Option (Int32)
  | 0, _, _, _ => none
  | n + 1, x1, x3, S =>
    if (S.1 33 4) ≤ x3 then some x1 else
    (f_RM_isFitting (S.1 33 3) x2 x3 S).bind fun o1 =>
    if oob (((6 : Int32) * x2) + x3) 48 then none else
    if o1 = (S.1 34 (((6 : Int32) * x2) + x3).toNatClampNeg) then f_RM_wrong_L28 x2 n (x1 + (0 : Int32)) (x3 + 1) S else
    f_RM_wrong_L28 x2 n (x1 + (1 : Int32)) (x3 + 1) S
theorem f_RM_wrong_L28_s (x2 : Int32) (n : Nat) (x1 : Int32) (x3 : Int32) (S : SS) : f_RM_wrong_L28 x2 (n + 1) x1 x3 S =
    if (S.1 33 4) ≤ x3 then some x1 else
    (f_RM_isFitting (S.1 33 3) x2 x3 S).bind fun o1 =>
    if oob (((6 : Int32) * x2) + x3) 48 then none else
    if o1 = (S.1 34 (((6 : Int32) * x2) + x3).toNatClampNeg) then f_RM_wrong_L28 x2 n (x1 + (0 : Int32)) (x3 + 1) S else
    f_RM_wrong_L28 x2 n (x1 + (1 : Int32)) (x3 + 1) S := rfl
def f_RM_wrong_L18 : Nat → Int32 → Int32 → SS → Option (Int32)
  | 0, _, _, _ => none
  | n + 1, x1, x2, S =>
    if (S.1 33 3) ≤ x2 then some x1 else
    (f_RM_wrong_L28 x2 FU x1 (0 : Int32) S).bind fun v1 =>
    f_RM_wrong_L18 n v1 (x2 + 1) S
theorem f_RM_wrong_L18_s (n : Nat) (x1 : Int32) (x2 : Int32) (S : SS) : f_RM_wrong_L18 (n + 1) x1 x2 S =
    if (S.1 33 3) ≤ x2 then some x1 else
    (f_RM_wrong_L28 x2 FU x1 (0 : Int32) S).bind fun v1 =>
    f_RM_wrong_L18 n v1 (x2 + 1) S := rfl
def f_RM_wrong (S : SS) : Option (Int32 × SS) :=
  if (S.1 33 9) = 0 then some ((-1 : Int32), wI S 33 0 (0 : Int32)) else
  (f_RM_wrong_L18 FU (0 : Int32) (0 : Int32) (wI S 33 0 (0 : Int32))).bind fun v1 =>
  some (v1, wI S 33 0 (0 : Int32))
theorem f_RM_wrong_s (S : SS) : f_RM_wrong S =
  if (S.1 33 9) = 0 then some ((-1 : Int32), wI S 33 0 (0 : Int32)) else
  (f_RM_wrong_L18 FU (0 : Int32) (0 : Int32) (wI S 33 0 (0 : Int32))).bind fun v1 =>
  some (v1, wI S 33 0 (0 : Int32)) := rfl
def f_RM_rows_L4 : Nat → Int32 → Int32 → SS → Option (Int32)
  | 0, _, _, _ => none
  | n + 1, x1, x2, S =>
    if (S.1 33 1) ≤ x2 then some x1 else
    f_RM_rows_L4 n (x1 * (S.1 33 2)) (x2 + 1) S
theorem f_RM_rows_L4_s (n : Nat) (x1 : Int32) (x2 : Int32) (S : SS) : f_RM_rows_L4 (n + 1) x1 x2 S =
    if (S.1 33 1) ≤ x2 then some x1 else
    f_RM_rows_L4 n (x1 * (S.1 33 2)) (x2 + 1) S := rfl
def f_RM_rows (S : SS) : Option (Int32) :=
  (f_RM_rows_L4 FU (1 : Int32) (0 : Int32) S).bind fun v1 =>
  some v1
theorem f_RM_rows_s (S : SS) : f_RM_rows S =
  (f_RM_rows_L4 FU (1 : Int32) (0 : Int32) S).bind fun v1 =>
  some v1 := rfl
def f_RM_isFree_L9 : Nat → Int32 → Int32 → SS → Option (SS)
  | 0, _, _, _ => none
  | n + 1, x2, x3, S =>
    if x3 < 0 then some S else
    if (S.1 33 2) = 0 then none else
    if oob x3 6 then none else
    f_RM_isFree_L9 n (x2 / (S.1 33 2)) (x3 + (-1)) (wI S 37 x3.toNatClampNeg (x2 - x2 / (S.1 33 2) * (S.1 33 2)))
theorem f_RM_isFree_L9_s (n : Nat) (x2 : Int32) (x3 : Int32) (S : SS) : f_RM_isFree_L9 (n + 1) x2 x3 S =
    if x3 < 0 then some S else
    if (S.1 33 2) = 0 then none else
    if oob x3 6 then none else
    f_RM_isFree_L9 n (x2 / (S.1 33 2)) (x3 + (-1)) (wI S 37 x3.toNatClampNeg (x2 - x2 / (S.1 33 2) * (S.1 33 2))) := rfl
def f_RM_isFree_L43 : Nat → Int32 → Int32 → SS → Option (Int32)
  | 0, _, _, _ => none
  | n + 1, x3, x4, S =>
    if (S.1 33 1) ≤ x4 then some x3 else
    if x3 = 0 then f_RM_isFree_L43 n (0 : Int32) (x4 + 1) S else
    if oob (x4 - (1 : Int32)) 6 then none else
    if oob x4 6 then none else
    (f_RM_mayStand (S.1 37 (x4 - (1 : Int32)).toNatClampNeg) (S.1 37 x4.toNatClampNeg) S).bind fun o3 =>
    if o3 = 0 then f_RM_isFree_L43 n (0 : Int32) (x4 + 1) S else
    f_RM_isFree_L43 n (1 : Int32) (x4 + 1) S
theorem f_RM_isFree_L43_s (n : Nat) (x3 : Int32) (x4 : Int32) (S : SS) : f_RM_isFree_L43 (n + 1) x3 x4 S =
    if (S.1 33 1) ≤ x4 then some x3 else
    if x3 = 0 then f_RM_isFree_L43 n (0 : Int32) (x4 + 1) S else
    if oob (x4 - (1 : Int32)) 6 then none else
    if oob x4 6 then none else
    (f_RM_mayStand (S.1 37 (x4 - (1 : Int32)).toNatClampNeg) (S.1 37 x4.toNatClampNeg) S).bind fun o3 =>
    if o3 = 0 then f_RM_isFree_L43 n (0 : Int32) (x4 + 1) S else
    f_RM_isFree_L43 n (1 : Int32) (x4 + 1) S := rfl
def f_RM_isFree_L113 (x4 : Int32) : Nat → Int32 → Int32 → SS → Option (Int32)
  | 0, _, _, _ => none
  | n + 1, x5, x6, S =>
    if (S.1 33 1) ≤ x6 then some x5 else
    if x5 = 0 then f_RM_isFree_L113 x4 n (0 : Int32) (x6 + 1) S else
    if oob (((S.1 33 1) * x4) + x6) 48 then none else
    if oob x6 6 then none else
    if (S.1 36 (((S.1 33 1) * x4) + x6).toNatClampNeg) = (S.1 37 x6.toNatClampNeg) then f_RM_isFree_L113 x4 n (1 : Int32) (x6 + 1) S else
    f_RM_isFree_L113 x4 n (0 : Int32) (x6 + 1) S
theorem f_RM_isFree_L113_s (x4 : Int32) (n : Nat) (x5 : Int32) (x6 : Int32) (S : SS) : f_RM_isFree_L113 x4 (n + 1) x5 x6 S =
    if (S.1 33 1) ≤ x6 then some x5 else
    if x5 = 0 then f_RM_isFree_L113 x4 n (0 : Int32) (x6 + 1) S else
    if oob (((S.1 33 1) * x4) + x6) 48 then none else
    if oob x6 6 then none else
    if (S.1 36 (((S.1 33 1) * x4) + x6).toNatClampNeg) = (S.1 37 x6.toNatClampNeg) then f_RM_isFree_L113 x4 n (1 : Int32) (x6 + 1) S else
    f_RM_isFree_L113 x4 n (0 : Int32) (x6 + 1) S := rfl
def f_RM_isFree_L94 : Nat → Int32 → Int32 → SS → Option (Int32)
  | 0, _, _, _ => none
  | n + 1, x3, x4, S =>
    if (S.1 33 3) ≤ x4 then some x3 else
    if x3 = 0 then some x3 else
    (f_RM_isFree_L113 x4 FU (1 : Int32) (0 : Int32) S).bind fun v1 =>
    if v1 = 0 then f_RM_isFree_L94 n (1 : Int32) (x4 + 1) S else
    f_RM_isFree_L94 n (0 : Int32) (x4 + 1) S
theorem f_RM_isFree_L94_s (n : Nat) (x3 : Int32) (x4 : Int32) (S : SS) : f_RM_isFree_L94 (n + 1) x3 x4 S =
    if (S.1 33 3) ≤ x4 then some x3 else
    if x3 = 0 then some x3 else
    (f_RM_isFree_L113 x4 FU (1 : Int32) (0 : Int32) S).bind fun v1 =>
    if v1 = 0 then f_RM_isFree_L94 n (1 : Int32) (x4 + 1) S else
    f_RM_isFree_L94 n (0 : Int32) (x4 + 1) S := rfl
def f_RM_isFree (a1 : Int32) (S : SS) : Option (Int32 × SS) :=
  (f_RM_isFree_L9 FU a1 ((S.1 33 1) - (1 : Int32)) S).bind fun v1 =>
  (f_RM_isFree_L43 FU (1 : Int32) (1 : Int32) v1).bind fun v2 =>
  (f_RM_isFree_L94 FU v2 (0 : Int32) v1).bind fun v3 =>
  if v3 = 0 ∨ v3 = 1 then some (v3, v1) else none
theorem f_RM_isFree_s (a1 : Int32) (S : SS) : f_RM_isFree a1 S =
  (f_RM_isFree_L9 FU a1 ((S.1 33 1) - (1 : Int32)) S).bind fun v1 =>
  (f_RM_isFree_L43 FU (1 : Int32) (1 : Int32) v1).bind fun v2 =>
  (f_RM_isFree_L94 FU v2 (0 : Int32) v1).bind fun v3 =>
  if v3 = 0 ∨ v3 = 1 then some (v3, v1) else none := rfl
def f_RM_doorsOfRow_L17 (x1 : Int32) (x2 : Int32) : Nat → Int32 → Int32 → SS → Option (Int32)
  | 0, _, _, _ => none
  | n + 1, x3, x4, S =>
    if (S.1 33 1) ≤ x4 then some x3 else
    if x3 = 0 then some x3 else
    if oob x4 6 then none else
    (f_RM_isHeld (S.1 33 3) x2 x4 (S.1 37 x4.toNatClampNeg) S).bind fun o2 =>
    f_RM_doorsOfRow_L17 x1 x2 n o2 (x4 + 1) S
theorem f_RM_doorsOfRow_L17_s (x1 : Int32) (x2 : Int32) (n : Nat) (x3 : Int32) (x4 : Int32) (S : SS) : f_RM_doorsOfRow_L17 x1 x2 (n + 1) x3 x4 S =
    if (S.1 33 1) ≤ x4 then some x3 else
    if x3 = 0 then some x3 else
    if oob x4 6 then none else
    (f_RM_isHeld (S.1 33 3) x2 x4 (S.1 37 x4.toNatClampNeg) S).bind fun o2 =>
    f_RM_doorsOfRow_L17 x1 x2 n o2 (x4 + 1) S := rfl
def f_RM_doorsOfRow_L4 : Nat → Int32 → Int32 → SS → Option (Int32)
  | 0, _, _, _ => none
  | n + 1, x1, x2, S =>
    if (S.1 33 4) ≤ x2 then some x1 else
    (f_RM_doorsOfRow_L17 x1 x2 FU (1 : Int32) (0 : Int32) S).bind fun v1 =>
    if v1 = 0 then f_RM_doorsOfRow_L4 n (x1 ||| (0 : Int32)) (x2 + 1) S else
    f_RM_doorsOfRow_L4 n (x1 ||| ((1 : Int32) <<< (x2 &&& 31))) (x2 + 1) S
theorem f_RM_doorsOfRow_L4_s (n : Nat) (x1 : Int32) (x2 : Int32) (S : SS) : f_RM_doorsOfRow_L4 (n + 1) x1 x2 S =
    if (S.1 33 4) ≤ x2 then some x1 else
    (f_RM_doorsOfRow_L17 x1 x2 FU (1 : Int32) (0 : Int32) S).bind fun v1 =>
    if v1 = 0 then f_RM_doorsOfRow_L4 n (x1 ||| (0 : Int32)) (x2 + 1) S else
    f_RM_doorsOfRow_L4 n (x1 ||| ((1 : Int32) <<< (x2 &&& 31))) (x2 + 1) S := rfl
def f_RM_doorsOfRow (S : SS) : Option (Int32) :=
  (f_RM_doorsOfRow_L4 FU (0 : Int32) (0 : Int32) S).bind fun v1 =>
  some v1
theorem f_RM_doorsOfRow_s (S : SS) : f_RM_doorsOfRow S =
  (f_RM_doorsOfRow_L4 FU (0 : Int32) (0 : Int32) S).bind fun v1 =>
  some v1 := rfl
def f_RM_left_L20 : Nat → Int32 → Int32 → SS → Option (Int32 × SS)
  | 0, _, _, _ => none
  | n + 1, x1, x2, S =>
    (f_RM_rows S).bind fun o1 =>
    if o1 ≤ x2 then some (x1, S) else
    if (S.1 33 9) = 0 then some (x1, S) else
    (f_RM_isFree x2 S).bind fun o2 =>
    if o2.1 = 0 then f_RM_left_L20 n (x1 + (0 : Int32)) (x2 + 1) o2.2 else
    (f_RM_doorsOfRow o2.2).bind fun o3 =>
    if o3 = 0 then f_RM_left_L20 n (x1 + (1 : Int32)) (x2 + 1) o2.2 else
    f_RM_left_L20 n (x1 + (0 : Int32)) (x2 + 1) o2.2
theorem f_RM_left_L20_s (n : Nat) (x1 : Int32) (x2 : Int32) (S : SS) : f_RM_left_L20 (n + 1) x1 x2 S =
    (f_RM_rows S).bind fun o1 =>
    if o1 ≤ x2 then some (x1, S) else
    if (S.1 33 9) = 0 then some (x1, S) else
    (f_RM_isFree x2 S).bind fun o2 =>
    if o2.1 = 0 then f_RM_left_L20 n (x1 + (0 : Int32)) (x2 + 1) o2.2 else
    (f_RM_doorsOfRow o2.2).bind fun o3 =>
    if o3 = 0 then f_RM_left_L20 n (x1 + (1 : Int32)) (x2 + 1) o2.2 else
    f_RM_left_L20 n (x1 + (0 : Int32)) (x2 + 1) o2.2 := rfl
def f_RM_left (S : SS) : Option (Int32 × SS) :=
  if (S.1 33 9) = 0 then
    ((f_RM_left_L20 FU (0 : Int32) (0 : Int32) (wI S 33 0 (1 : Int32))).bind fun v1 =>
    some (v1.1, v1.2))
  else
  (f_RM_left_L20 FU (0 : Int32) (0 : Int32) (wI S 33 0 (0 : Int32))).bind fun v2 =>
  some (v2.1, v2.2)
theorem f_RM_left_s (S : SS) : f_RM_left S =
  if (S.1 33 9) = 0 then
    ((f_RM_left_L20 FU (0 : Int32) (0 : Int32) (wI S 33 0 (1 : Int32))).bind fun v1 =>
    some (v1.1, v1.2))
  else
  (f_RM_left_L20 FU (0 : Int32) (0 : Int32) (wI S 33 0 (0 : Int32))).bind fun v2 =>
  some (v2.1, v2.2) := rfl
def f_RM_add_L83 (x1 : Int32) : Nat → Int32 → SS → Option (SS)
  | 0, _, _ => none
  | n + 1, x4, S =>
    if (S.1 33 1) ≤ x4 then some S else
    if oob x4 6 then none else
    if oob (((S.1 33 1) * (S.1 33 3)) + x4) 48 then none else
    f_RM_add_L83 x1 n (x4 + 1) (wI S 36 (((S.1 33 1) * (S.1 33 3)) + x4).toNatClampNeg (S.1 37 x4.toNatClampNeg))
theorem f_RM_add_L83_s (x1 : Int32) (n : Nat) (x4 : Int32) (S : SS) : f_RM_add_L83 x1 (n + 1) x4 S =
    if (S.1 33 1) ≤ x4 then some S else
    if oob x4 6 then none else
    if oob (((S.1 33 1) * (S.1 33 3)) + x4) 48 then none else
    f_RM_add_L83 x1 n (x4 + 1) (wI S 36 (((S.1 33 1) * (S.1 33 3)) + x4).toNatClampNeg (S.1 37 x4.toNatClampNeg)) := rfl
def f_RM_add_L125 (x1 : Int32) : Nat → Int32 → SS → Option (SS)
  | 0, _, _ => none
  | n + 1, x4, S =>
    if (6 : Int32) ≤ x4 then some S else
    if ((x1 >>> (x4 &&& 31)) &&& (1 : Int32)) = (1 : Int32) then
      (if oob (((6 : Int32) * (S.1 33 3)) + x4) 48 then none else
      f_RM_add_L125 x1 n (x4 + 1) (wI S 34 (((6 : Int32) * (S.1 33 3)) + x4).toNatClampNeg (vp_nar .boolean (1 : Int32))))
    else
    if oob (((6 : Int32) * (S.1 33 3)) + x4) 48 then none else
    f_RM_add_L125 x1 n (x4 + 1) (wI S 34 (((6 : Int32) * (S.1 33 3)) + x4).toNatClampNeg (vp_nar .boolean (0 : Int32)))
theorem f_RM_add_L125_s (x1 : Int32) (n : Nat) (x4 : Int32) (S : SS) : f_RM_add_L125 x1 (n + 1) x4 S =
    if (6 : Int32) ≤ x4 then some S else
    if ((x1 >>> (x4 &&& 31)) &&& (1 : Int32)) = (1 : Int32) then
      (if oob (((6 : Int32) * (S.1 33 3)) + x4) 48 then none else
      f_RM_add_L125 x1 n (x4 + 1) (wI S 34 (((6 : Int32) * (S.1 33 3)) + x4).toNatClampNeg (vp_nar .boolean (1 : Int32))))
    else
    if oob (((6 : Int32) * (S.1 33 3)) + x4) 48 then none else
    f_RM_add_L125 x1 n (x4 + 1) (wI S 34 (((6 : Int32) * (S.1 33 3)) + x4).toNatClampNeg (vp_nar .boolean (0 : Int32))) := rfl
def f_RM_add_L59 (x1 : Int32) (x2 : Int32) : Nat → Int32 → SS → Option ((Int32 × SS) ⊕ SS)
  | 0, _, _ => none
  | n + 1, x3, S =>
    if x2 ≤ x3 then some (.inr S) else
    (f_RM_isFree x3 S).bind fun o1 =>
    if o1.1 = 0 then f_RM_add_L59 x1 x2 n (x3 + 1) o1.2 else
    (f_RM_doorsOfRow o1.2).bind fun o2 =>
    if o2 = x1 then
      ((f_RM_add_L83 x1 FU (0 : Int32) o1.2).bind fun v3 =>
      (f_RM_add_L125 x1 FU (0 : Int32) v3).bind fun v4 =>
      some (.inl (((v4.1 33 3) + (1 : Int32)) - (1 : Int32), wI v4 33 3 ((v4.1 33 3) + (1 : Int32)))))
    else
    f_RM_add_L59 x1 x2 n (x3 + 1) o1.2
theorem f_RM_add_L59_s (x1 : Int32) (x2 : Int32) (n : Nat) (x3 : Int32) (S : SS) : f_RM_add_L59 x1 x2 (n + 1) x3 S =
    if x2 ≤ x3 then some (.inr S) else
    (f_RM_isFree x3 S).bind fun o1 =>
    if o1.1 = 0 then f_RM_add_L59 x1 x2 n (x3 + 1) o1.2 else
    (f_RM_doorsOfRow o1.2).bind fun o2 =>
    if o2 = x1 then
      ((f_RM_add_L83 x1 FU (0 : Int32) o1.2).bind fun v3 =>
      (f_RM_add_L125 x1 FU (0 : Int32) v3).bind fun v4 =>
      some (.inl (((v4.1 33 3) + (1 : Int32)) - (1 : Int32), wI v4 33 3 ((v4.1 33 3) + (1 : Int32)))))
    else
    f_RM_add_L59 x1 x2 n (x3 + 1) o1.2 := rfl
def f_RM_add (a1 : Int32) (S : SS) : Option (Int32 × SS) :=
  if a1 < 0 then some ((0 : Int32), wI S 33 0 (1 : Int32)) else
  if a1 < ((1 : Int32) <<< ((S.1 33 4) &&& 31)) then
    (if (S.1 33 9) = 0 then some ((0 : Int32), wI S 33 0 (2 : Int32)) else
    if (S.1 33 3) = (8 : Int32) then some ((0 : Int32), wI S 33 0 (2 : Int32)) else
    (f_RM_rows (wI S 33 0 (0 : Int32))).bind fun o1 =>
    (f_RM_add_L59 a1 o1 FU (0 : Int32) (wI S 33 0 (0 : Int32))).bind fun v2 => Sum.elim (fun r3 => some r3) (fun v2 =>
    some ((-1 : Int32), v2)) v2)
  else
  some ((0 : Int32), wI S 33 0 (1 : Int32))
theorem f_RM_add_s (a1 : Int32) (S : SS) : f_RM_add a1 S =
  if a1 < 0 then some ((0 : Int32), wI S 33 0 (1 : Int32)) else
  if a1 < ((1 : Int32) <<< ((S.1 33 4) &&& 31)) then
    (if (S.1 33 9) = 0 then some ((0 : Int32), wI S 33 0 (2 : Int32)) else
    if (S.1 33 3) = (8 : Int32) then some ((0 : Int32), wI S 33 0 (2 : Int32)) else
    (f_RM_rows (wI S 33 0 (0 : Int32))).bind fun o1 =>
    (f_RM_add_L59 a1 o1 FU (0 : Int32) (wI S 33 0 (0 : Int32))).bind fun v2 => Sum.elim (fun r3 => some r3) (fun v2 =>
    some ((-1 : Int32), v2)) v2)
  else
  some ((0 : Int32), wI S 33 0 (1 : Int32)) := rfl
def f_RM_heirs_L64 (x1 : Int32) (x2 : Int32) (x3 : Int32) : Nat → Int32 → Int32 → SS → Option (Int32)
  | 0, _, _, _ => none
  | n + 1, x4, x5, S =>
    if (S.1 33 4) ≤ x5 then some x4 else
    if x4 = 0 then f_RM_heirs_L64 x1 x2 x3 n (0 : Int32) (x5 + 1) S else
    (f_RM_isFitting (S.1 33 3) x1 x5 S).bind fun o1 =>
    if o1 = 0 then f_RM_heirs_L64 x1 x2 x3 n (1 : Int32) (x5 + 1) S else
    (f_RM_isFitting (S.1 33 3) x3 x5 S).bind fun o2 =>
    if o2 = 0 then f_RM_heirs_L64 x1 x2 x3 n (0 : Int32) (x5 + 1) S else
    f_RM_heirs_L64 x1 x2 x3 n (1 : Int32) (x5 + 1) S
theorem f_RM_heirs_L64_s (x1 : Int32) (x2 : Int32) (x3 : Int32) (n : Nat) (x4 : Int32) (x5 : Int32) (S : SS) : f_RM_heirs_L64 x1 x2 x3 (n + 1) x4 x5 S =
    if (S.1 33 4) ≤ x5 then some x4 else
    if x4 = 0 then f_RM_heirs_L64 x1 x2 x3 n (0 : Int32) (x5 + 1) S else
    (f_RM_isFitting (S.1 33 3) x1 x5 S).bind fun o1 =>
    if o1 = 0 then f_RM_heirs_L64 x1 x2 x3 n (1 : Int32) (x5 + 1) S else
    (f_RM_isFitting (S.1 33 3) x3 x5 S).bind fun o2 =>
    if o2 = 0 then f_RM_heirs_L64 x1 x2 x3 n (0 : Int32) (x5 + 1) S else
    f_RM_heirs_L64 x1 x2 x3 n (1 : Int32) (x5 + 1) S := rfl
def f_RM_heirs_L41 (x1 : Int32) : Nat → Int32 → Int32 → SS → Option (Int32)
  | 0, _, _, _ => none
  | n + 1, x2, x3, S =>
    if (S.1 33 3) ≤ x3 then some x2 else
    if x3 = x1 then
      ((f_RM_heirs_L64 x1 x2 x3 FU (0 : Int32) (0 : Int32) S).bind fun v1 =>
      if v1 = 0 then f_RM_heirs_L41 x1 n (x2 ||| (0 : Int32)) (x3 + 1) S else
      f_RM_heirs_L41 x1 n (x2 ||| ((1 : Int32) <<< (x3 &&& 31))) (x3 + 1) S)
    else
    (f_RM_heirs_L64 x1 x2 x3 FU (1 : Int32) (0 : Int32) S).bind fun v2 =>
    if v2 = 0 then f_RM_heirs_L41 x1 n (x2 ||| (0 : Int32)) (x3 + 1) S else
    f_RM_heirs_L41 x1 n (x2 ||| ((1 : Int32) <<< (x3 &&& 31))) (x3 + 1) S
theorem f_RM_heirs_L41_s (x1 : Int32) (n : Nat) (x2 : Int32) (x3 : Int32) (S : SS) : f_RM_heirs_L41 x1 (n + 1) x2 x3 S =
    if (S.1 33 3) ≤ x3 then some x2 else
    if x3 = x1 then
      ((f_RM_heirs_L64 x1 x2 x3 FU (0 : Int32) (0 : Int32) S).bind fun v1 =>
      if v1 = 0 then f_RM_heirs_L41 x1 n (x2 ||| (0 : Int32)) (x3 + 1) S else
      f_RM_heirs_L41 x1 n (x2 ||| ((1 : Int32) <<< (x3 &&& 31))) (x3 + 1) S)
    else
    (f_RM_heirs_L64 x1 x2 x3 FU (1 : Int32) (0 : Int32) S).bind fun v2 =>
    if v2 = 0 then f_RM_heirs_L41 x1 n (x2 ||| (0 : Int32)) (x3 + 1) S else
    f_RM_heirs_L41 x1 n (x2 ||| ((1 : Int32) <<< (x3 &&& 31))) (x3 + 1) S := rfl
def f_RM_heirs (a1 : Int32) (S : SS) : Option (Int32 × SS) :=
  (f_RM_noKey a1 S).bind fun o1 =>
  if o1 = 0 then
    (if (S.1 33 9) = 0 then some ((0 : Int32), wI S 33 0 (2 : Int32)) else
    (f_RM_heirs_L41 a1 FU (0 : Int32) (0 : Int32) (wI S 33 0 (0 : Int32))).bind fun v2 =>
    some (v2, wI S 33 0 (0 : Int32)))
  else
  some ((0 : Int32), wI S 33 0 (1 : Int32))
theorem f_RM_heirs_s (a1 : Int32) (S : SS) : f_RM_heirs a1 S =
  (f_RM_noKey a1 S).bind fun o1 =>
  if o1 = 0 then
    (if (S.1 33 9) = 0 then some ((0 : Int32), wI S 33 0 (2 : Int32)) else
    (f_RM_heirs_L41 a1 FU (0 : Int32) (0 : Int32) (wI S 33 0 (0 : Int32))).bind fun v2 =>
    some (v2, wI S 33 0 (0 : Int32)))
  else
  some ((0 : Int32), wI S 33 0 (1 : Int32)) := rfl
