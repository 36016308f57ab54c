def f_LW_key (S : SS) : Option (Int32 × SS) :=
  (f_MK_key S).bind fun o1 => Sum.elim (fun c3 => some ((1 : Int32), S)) (fun o1 =>
  if oob (0 : Int32) 1 then none else
  some ((0 : Int32), wL o1.2 38 (0 : Int32).toNatClampNeg o1.1.toInt64)) o1
theorem f_LW_key_s (S : SS) : f_LW_key S =
  (f_MK_key S).bind fun o1 => Sum.elim (fun c3 => some ((1 : Int32), S)) (fun o1 =>
  if oob (0 : Int32) 1 then none else
  some ((0 : Int32), wL o1.2 38 (0 : Int32).toNatClampNeg o1.1.toInt64)) o1 := rfl
def f_LW_door (S : SS) : Option (Int32 × SS) :=
  (f_MK_door S).bind fun o1 => Sum.elim (fun c3 => some ((1 : Int32), S)) (fun o1 =>
  if oob (0 : Int32) 1 then none else
  some ((0 : Int32), wL o1.2 38 (0 : Int32).toNatClampNeg o1.1.toInt64)) o1
theorem f_LW_door_s (S : SS) : f_LW_door S =
  (f_MK_door S).bind fun o1 => Sum.elim (fun c3 => some ((1 : Int32), S)) (fun o1 =>
  if oob (0 : Int32) 1 then none else
  some ((0 : Int32), wL o1.2 38 (0 : Int32).toNatClampNeg o1.1.toInt64)) o1 := rfl
def f_LW_must (a1 : Int32) (a2 : Int32) (a3 : Int32) (S : SS) : Option (Int32 × SS) :=
  (f_MK_must a1 a2 a3 S).bind fun o1 => Sum.elim (fun c4 => some ((1 : Int32), S)) (fun o1 =>
  if o1.1 = 0 then
    (if oob (0 : Int32) 1 then none else
    some ((0 : Int32), wL o1.2 38 (0 : Int32).toNatClampNeg (0 : Int64)))
  else
  if oob (0 : Int32) 1 then none else
  some ((0 : Int32), wL o1.2 38 (0 : Int32).toNatClampNeg (1 : Int64))) o1
theorem f_LW_must_s (a1 : Int32) (a2 : Int32) (a3 : Int32) (S : SS) : f_LW_must a1 a2 a3 S =
  (f_MK_must a1 a2 a3 S).bind fun o1 => Sum.elim (fun c4 => some ((1 : Int32), S)) (fun o1 =>
  if o1.1 = 0 then
    (if oob (0 : Int32) 1 then none else
    some ((0 : Int32), wL o1.2 38 (0 : Int32).toNatClampNeg (0 : Int64)))
  else
  if oob (0 : Int32) 1 then none else
  some ((0 : Int32), wL o1.2 38 (0 : Int32).toNatClampNeg (1 : Int64))) o1 := rfl
def f_LW_step (a1 : Int32) (S : SS) : Option (Int32 × SS) :=
  (f_MK_step a1 S).bind fun o1 => Sum.elim (fun c3 => some ((1 : Int32), S)) (fun o1 =>
  if oob (0 : Int32) 1 then none else
  some ((0 : Int32), wL o1.2 38 (0 : Int32).toNatClampNeg o1.1.toInt64)) o1
theorem f_LW_step_s (a1 : Int32) (S : SS) : f_LW_step a1 S =
  (f_MK_step a1 S).bind fun o1 => Sum.elim (fun c3 => some ((1 : Int32), S)) (fun o1 =>
  if oob (0 : Int32) 1 then none else
  some ((0 : Int32), wL o1.2 38 (0 : Int32).toNatClampNeg o1.1.toInt64)) o1 := rfl
def f_LW_bar (a1 : Int32) (a2 : Int32) (a3 : Int32) (S : SS) : Option (Int32 × SS) :=
  (f_MK_bar a1 a2 a3 S).bind fun o1 => Sum.elim (fun c4 => some ((1 : Int32), S)) (fun o1 =>
  if o1.1 = 0 then
    (if oob (0 : Int32) 1 then none else
    some ((0 : Int32), wL o1.2 38 (0 : Int32).toNatClampNeg (0 : Int64)))
  else
  if oob (0 : Int32) 1 then none else
  some ((0 : Int32), wL o1.2 38 (0 : Int32).toNatClampNeg (1 : Int64))) o1
theorem f_LW_bar_s (a1 : Int32) (a2 : Int32) (a3 : Int32) (S : SS) : f_LW_bar a1 a2 a3 S =
  (f_MK_bar a1 a2 a3 S).bind fun o1 => Sum.elim (fun c4 => some ((1 : Int32), S)) (fun o1 =>
  if o1.1 = 0 then
    (if oob (0 : Int32) 1 then none else
    some ((0 : Int32), wL o1.2 38 (0 : Int32).toNatClampNeg (0 : Int64)))
  else
  if oob (0 : Int32) 1 then none else
  some ((0 : Int32), wL o1.2 38 (0 : Int32).toNatClampNeg (1 : Int64))) o1 := rfl
def f_LW_top (a1 : Int32) (S : SS) : Option (Int32 × SS) :=
  (f_MK_top a1 S).bind fun o1 => Sum.elim (fun c3 => some ((1 : Int32), S)) (fun o1 =>
  if oob (0 : Int32) 1 then none else
  some ((0 : Int32), wL o1.2 38 (0 : Int32).toNatClampNeg o1.1.toInt64)) o1
theorem f_LW_top_s (a1 : Int32) (S : SS) : f_LW_top a1 S =
  (f_MK_top a1 S).bind fun o1 => Sum.elim (fun c3 => some ((1 : Int32), S)) (fun o1 =>
  if oob (0 : Int32) 1 then none else
  some ((0 : Int32), wL o1.2 38 (0 : Int32).toNatClampNeg o1.1.toInt64)) o1 := rfl
def f_LW_run (a1 : Int32) (S : SS) : Option (Int32 × SS) :=
  (f_MK_run a1 S).bind fun o1 => Sum.elim (fun c3 => if c3 = 1 then some ((1 : Int32), S) else some ((2 : Int32), S)) (fun o1 =>
  if oob (0 : Int32) 1 then none else
  some ((0 : Int32), wL o1.2 38 (0 : Int32).toNatClampNeg o1.1.toInt64)) o1
theorem f_LW_run_s (a1 : Int32) (S : SS) : f_LW_run a1 S =
  (f_MK_run a1 S).bind fun o1 => Sum.elim (fun c3 => if c3 = 1 then some ((1 : Int32), S) else some ((2 : Int32), S)) (fun o1 =>
  if oob (0 : Int32) 1 then none else
  some ((0 : Int32), wL o1.2 38 (0 : Int32).toNatClampNeg o1.1.toInt64)) o1 := rfl
def f_LW_cut (a1 : Int32) (a2 : Int32) (S : SS) : Option (Int32 × SS) :=
  (f_MK_cut a1 a2 S).bind fun o1 => Sum.elim (fun c3 => some ((1 : Int32), S)) (fun o1 =>
  if oob (0 : Int32) 1 then none else
  some ((0 : Int32), wL S 38 (0 : Int32).toNatClampNeg o1.toInt64)) o1
theorem f_LW_cut_s (a1 : Int32) (a2 : Int32) (S : SS) : f_LW_cut a1 a2 S =
  (f_MK_cut a1 a2 S).bind fun o1 => Sum.elim (fun c3 => some ((1 : Int32), S)) (fun o1 =>
  if oob (0 : Int32) 1 then none else
  some ((0 : Int32), wL S 38 (0 : Int32).toNatClampNeg o1.toInt64)) o1 := rfl
def f_LW_holds (a1 : Int32) (a2 : Int32) (a3 : Int32) (S : SS) : Option (Int32 × SS) :=
  (f_MK_holds a1 a2 a3 S).bind fun o1 => Sum.elim (fun c4 => some ((1 : Int32), S)) (fun o1 =>
  if o1 = 0 then
    (if oob (0 : Int32) 1 then none else
    some ((0 : Int32), wL S 38 (0 : Int32).toNatClampNeg (0 : Int64)))
  else
  if oob (0 : Int32) 1 then none else
  some ((0 : Int32), wL S 38 (0 : Int32).toNatClampNeg (1 : Int64))) o1
theorem f_LW_holds_s (a1 : Int32) (a2 : Int32) (a3 : Int32) (S : SS) : f_LW_holds a1 a2 a3 S =
  (f_MK_holds a1 a2 a3 S).bind fun o1 => Sum.elim (fun c4 => some ((1 : Int32), S)) (fun o1 =>
  if o1 = 0 then
    (if oob (0 : Int32) 1 then none else
    some ((0 : Int32), wL S 38 (0 : Int32).toNatClampNeg (0 : Int64)))
  else
  if oob (0 : Int32) 1 then none else
  some ((0 : Int32), wL S 38 (0 : Int32).toNatClampNeg (1 : Int64))) o1 := rfl
def f_LW_fits (a1 : Int32) (a2 : Int32) (S : SS) : Option (Int32 × SS) :=
  (f_MK_fits a1 a2 S).bind fun o1 => Sum.elim (fun c4 => some ((1 : Int32), S)) (fun o1 =>
  if o1 = 0 then
    (if oob (0 : Int32) 1 then none else
    some ((0 : Int32), wL S 38 (0 : Int32).toNatClampNeg (0 : Int64)))
  else
  if oob (0 : Int32) 1 then none else
  some ((0 : Int32), wL S 38 (0 : Int32).toNatClampNeg (1 : Int64))) o1
theorem f_LW_fits_s (a1 : Int32) (a2 : Int32) (S : SS) : f_LW_fits a1 a2 S =
  (f_MK_fits a1 a2 S).bind fun o1 => Sum.elim (fun c4 => some ((1 : Int32), S)) (fun o1 =>
  if o1 = 0 then
    (if oob (0 : Int32) 1 then none else
    some ((0 : Int32), wL S 38 (0 : Int32).toNatClampNeg (0 : Int64)))
  else
  if oob (0 : Int32) 1 then none else
  some ((0 : Int32), wL S 38 (0 : Int32).toNatClampNeg (1 : Int64))) o1 := rfl
def f_LW_left (S : SS) : Option (Int32 × SS) :=
  (f_MK_left S).bind fun o1 => Sum.elim (fun c3 => some ((1 : Int32), S)) (fun o1 =>
  if oob (0 : Int32) 1 then none else
  some ((0 : Int32), wL o1.2 38 (0 : Int32).toNatClampNeg o1.1.toInt64)) o1
theorem f_LW_left_s (S : SS) : f_LW_left S =
  (f_MK_left S).bind fun o1 => Sum.elim (fun c3 => some ((1 : Int32), S)) (fun o1 =>
  if oob (0 : Int32) 1 then none else
  some ((0 : Int32), wL o1.2 38 (0 : Int32).toNatClampNeg o1.1.toInt64)) o1 := rfl
def f_LW_add (a1 : Int32) (S : SS) : Option (Int32 × SS) :=
  (f_MK_add a1 S).bind fun o1 => Sum.elim (fun c3 => if c3 = 1 then some ((1 : Int32), S) else some ((2 : Int32), S)) (fun o1 =>
  if oob (0 : Int32) 1 then none else
  some ((0 : Int32), wL o1.2 38 (0 : Int32).toNatClampNeg o1.1.toInt64)) o1
theorem f_LW_add_s (a1 : Int32) (S : SS) : f_LW_add a1 S =
  (f_MK_add a1 S).bind fun o1 => Sum.elim (fun c3 => if c3 = 1 then some ((1 : Int32), S) else some ((2 : Int32), S)) (fun o1 =>
  if oob (0 : Int32) 1 then none else
  some ((0 : Int32), wL o1.2 38 (0 : Int32).toNatClampNeg o1.1.toInt64)) o1 := rfl
def f_LW_heirs (a1 : Int32) (S : SS) : Option (Int32 × SS) :=
  (f_MK_heirs a1 S).bind fun o1 => Sum.elim (fun c3 => if c3 = 1 then some ((1 : Int32), S) else some ((2 : Int32), S)) (fun o1 =>
  if oob (0 : Int32) 1 then none else
  some ((0 : Int32), wL S 38 (0 : Int32).toNatClampNeg o1.toInt64)) o1
theorem f_LW_heirs_s (a1 : Int32) (S : SS) : f_LW_heirs a1 S =
  (f_MK_heirs a1 S).bind fun o1 => Sum.elim (fun c3 => if c3 = 1 then some ((1 : Int32), S) else some ((2 : Int32), S)) (fun o1 =>
  if oob (0 : Int32) 1 then none else
  some ((0 : Int32), wL S 38 (0 : Int32).toNatClampNeg o1.toInt64)) o1 := rfl
