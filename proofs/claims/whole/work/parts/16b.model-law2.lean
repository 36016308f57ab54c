def f_LW_loop (L : Nat) (xs : Nat → Int32) : Nat → Int32 → SS → Option Int32
  | 0, _, _ => none
  | n + 1, x4, S =>
    if ((Int32.ofNat L) - (4 : Int32)) < x4 then some (1 : Int32) else
    if oob x4 L then none else
    if ((xs x4.toNatClampNeg) &&& (15 : Int32)) = 0 then
      ((f_LW_key S).bind fun o2 =>
      (f_RM_key o2.2).bind fun o3 =>
      (f_RM_thrown o3.2).bind fun o4 =>
      if o4 = o2.1 then
        (if o2.1 = 0 then
          (if oob (0 : Int32) 1 then none else
          if (lg_cmp (o3.2.2 38 (0 : Int32).toNatClampNeg) o3.1.toInt64) = 0 then f_LW_loop L xs n (x4 + 4) o3.2 else
          some (0 : Int32))
        else
        f_LW_loop L xs n (x4 + 4) o3.2)
      else
      some (0 : Int32))
    else
    if ((xs x4.toNatClampNeg) &&& (15 : Int32)) = 1 then
      ((f_LW_door S).bind fun o6 =>
      (f_RM_door o6.2).bind fun o7 =>
      (f_RM_thrown o7.2).bind fun o8 =>
      if o8 = o6.1 then
        (if o6.1 = 0 then
          (if oob (0 : Int32) 1 then none else
          if (lg_cmp (o7.2.2 38 (0 : Int32).toNatClampNeg) o7.1.toInt64) = 0 then f_LW_loop L xs n (x4 + 4) o7.2 else
          some (0 : Int32))
        else
        f_LW_loop L xs n (x4 + 4) o7.2)
      else
      some (0 : Int32))
    else
    if ((xs x4.toNatClampNeg) &&& (15 : Int32)) = 2 then
      (if oob (x4 + (1 : Int32)) L then none else
      if oob (x4 + (2 : Int32)) L then none else
      if oob (x4 + (3 : Int32)) L then none else
      if (xs (x4 + (3 : Int32)).toNatClampNeg) = 0 then
        ((f_LW_must (xs (x4 + (1 : Int32)).toNatClampNeg) (xs (x4 + (2 : Int32)).toNatClampNeg) (0 : Int32) S).bind fun o13 =>
        if (xs (x4 + (3 : Int32)).toNatClampNeg) = 0 then
          ((f_RM_must (xs (x4 + (1 : Int32)).toNatClampNeg) (xs (x4 + (2 : Int32)).toNatClampNeg) (0 : Int32) o13.2).bind fun o14 =>
          (f_RM_thrown o14.2).bind fun o15 =>
          if o15 = o13.1 then
            (if o13.1 = 0 then
              (if oob (0 : Int32) 1 then none else
              if o14.1 = 0 then
                (if (lg_cmp (o14.2.2 38 (0 : Int32).toNatClampNeg) (0 : Int64)) = 0 then f_LW_loop L xs n (x4 + 4) o14.2 else
                some (0 : Int32))
              else
              if (lg_cmp (o14.2.2 38 (0 : Int32).toNatClampNeg) (1 : Int64)) = 0 then f_LW_loop L xs n (x4 + 4) o14.2 else
              some (0 : Int32))
            else
            f_LW_loop L xs n (x4 + 4) o14.2)
          else
          some (0 : Int32))
        else
        (f_RM_must (xs (x4 + (1 : Int32)).toNatClampNeg) (xs (x4 + (2 : Int32)).toNatClampNeg) (1 : Int32) o13.2).bind fun o17 =>
        (f_RM_thrown o17.2).bind fun o18 =>
        if o18 = o13.1 then
          (if o13.1 = 0 then
            (if oob (0 : Int32) 1 then none else
            if o17.1 = 0 then
              (if (lg_cmp (o17.2.2 38 (0 : Int32).toNatClampNeg) (0 : Int64)) = 0 then f_LW_loop L xs n (x4 + 4) o17.2 else
              some (0 : Int32))
            else
            if (lg_cmp (o17.2.2 38 (0 : Int32).toNatClampNeg) (1 : Int64)) = 0 then f_LW_loop L xs n (x4 + 4) o17.2 else
            some (0 : Int32))
          else
          f_LW_loop L xs n (x4 + 4) o17.2)
        else
        some (0 : Int32))
      else
      (f_LW_must (xs (x4 + (1 : Int32)).toNatClampNeg) (xs (x4 + (2 : Int32)).toNatClampNeg) (1 : Int32) S).bind fun o20 =>
      if (xs (x4 + (3 : Int32)).toNatClampNeg) = 0 then
        ((f_RM_must (xs (x4 + (1 : Int32)).toNatClampNeg) (xs (x4 + (2 : Int32)).toNatClampNeg) (0 : Int32) o20.2).bind fun o21 =>
        (f_RM_thrown o21.2).bind fun o22 =>
        if o22 = o20.1 then
          (if o20.1 = 0 then
            (if oob (0 : Int32) 1 then none else
            if o21.1 = 0 then
              (if (lg_cmp (o21.2.2 38 (0 : Int32).toNatClampNeg) (0 : Int64)) = 0 then f_LW_loop L xs n (x4 + 4) o21.2 else
              some (0 : Int32))
            else
            if (lg_cmp (o21.2.2 38 (0 : Int32).toNatClampNeg) (1 : Int64)) = 0 then f_LW_loop L xs n (x4 + 4) o21.2 else
            some (0 : Int32))
          else
          f_LW_loop L xs n (x4 + 4) o21.2)
        else
        some (0 : Int32))
      else
      (f_RM_must (xs (x4 + (1 : Int32)).toNatClampNeg) (xs (x4 + (2 : Int32)).toNatClampNeg) (1 : Int32) o20.2).bind fun o24 =>
      (f_RM_thrown o24.2).bind fun o25 =>
      if o25 = o20.1 then
        (if o20.1 = 0 then
          (if oob (0 : Int32) 1 then none else
          if o24.1 = 0 then
            (if (lg_cmp (o24.2.2 38 (0 : Int32).toNatClampNeg) (0 : Int64)) = 0 then f_LW_loop L xs n (x4 + 4) o24.2 else
            some (0 : Int32))
          else
          if (lg_cmp (o24.2.2 38 (0 : Int32).toNatClampNeg) (1 : Int64)) = 0 then f_LW_loop L xs n (x4 + 4) o24.2 else
          some (0 : Int32))
        else
        f_LW_loop L xs n (x4 + 4) o24.2)
      else
      some (0 : Int32))
    else
    if ((xs x4.toNatClampNeg) &&& (15 : Int32)) = 3 then
      (if oob (x4 + (1 : Int32)) L then none else
      (f_LW_step (xs (x4 + (1 : Int32)).toNatClampNeg) S).bind fun o28 =>
      (f_RM_step (xs (x4 + (1 : Int32)).toNatClampNeg) o28.2).bind fun o29 =>
      (f_RM_thrown o29.2).bind fun o30 =>
      if o30 = o28.1 then
        (if o28.1 = 0 then
          (if oob (0 : Int32) 1 then none else
          if (lg_cmp (o29.2.2 38 (0 : Int32).toNatClampNeg) o29.1.toInt64) = 0 then f_LW_loop L xs n (x4 + 4) o29.2 else
          some (0 : Int32))
        else
        f_LW_loop L xs n (x4 + 4) o29.2)
      else
      some (0 : Int32))
    else
    if ((xs x4.toNatClampNeg) &&& (15 : Int32)) = 4 then
      (if oob (x4 + (1 : Int32)) L then none else
      if oob (x4 + (2 : Int32)) L then none else
      if oob (x4 + (3 : Int32)) L then none else
      if (xs (x4 + (3 : Int32)).toNatClampNeg) = 0 then
        ((f_LW_bar (xs (x4 + (1 : Int32)).toNatClampNeg) (xs (x4 + (2 : Int32)).toNatClampNeg) (0 : Int32) S).bind fun o35 =>
        if (xs (x4 + (3 : Int32)).toNatClampNeg) = 0 then
          ((f_RM_bar (xs (x4 + (1 : Int32)).toNatClampNeg) (xs (x4 + (2 : Int32)).toNatClampNeg) (0 : Int32) o35.2).bind fun o36 =>
          (f_RM_thrown o36.2).bind fun o37 =>
          if o37 = o35.1 then
            (if o35.1 = 0 then
              (if oob (0 : Int32) 1 then none else
              if o36.1 = 0 then
                (if (lg_cmp (o36.2.2 38 (0 : Int32).toNatClampNeg) (0 : Int64)) = 0 then f_LW_loop L xs n (x4 + 4) o36.2 else
                some (0 : Int32))
              else
              if (lg_cmp (o36.2.2 38 (0 : Int32).toNatClampNeg) (1 : Int64)) = 0 then f_LW_loop L xs n (x4 + 4) o36.2 else
              some (0 : Int32))
            else
            f_LW_loop L xs n (x4 + 4) o36.2)
          else
          some (0 : Int32))
        else
        (f_RM_bar (xs (x4 + (1 : Int32)).toNatClampNeg) (xs (x4 + (2 : Int32)).toNatClampNeg) (1 : Int32) o35.2).bind fun o39 =>
        (f_RM_thrown o39.2).bind fun o40 =>
        if o40 = o35.1 then
          (if o35.1 = 0 then
            (if oob (0 : Int32) 1 then none else
            if o39.1 = 0 then
              (if (lg_cmp (o39.2.2 38 (0 : Int32).toNatClampNeg) (0 : Int64)) = 0 then f_LW_loop L xs n (x4 + 4) o39.2 else
              some (0 : Int32))
            else
            if (lg_cmp (o39.2.2 38 (0 : Int32).toNatClampNeg) (1 : Int64)) = 0 then f_LW_loop L xs n (x4 + 4) o39.2 else
            some (0 : Int32))
          else
          f_LW_loop L xs n (x4 + 4) o39.2)
        else
        some (0 : Int32))
      else
      (f_LW_bar (xs (x4 + (1 : Int32)).toNatClampNeg) (xs (x4 + (2 : Int32)).toNatClampNeg) (1 : Int32) S).bind fun o42 =>
      if (xs (x4 + (3 : Int32)).toNatClampNeg) = 0 then
        ((f_RM_bar (xs (x4 + (1 : Int32)).toNatClampNeg) (xs (x4 + (2 : Int32)).toNatClampNeg) (0 : Int32) o42.2).bind fun o43 =>
        (f_RM_thrown o43.2).bind fun o44 =>
        if o44 = o42.1 then
          (if o42.1 = 0 then
            (if oob (0 : Int32) 1 then none else
            if o43.1 = 0 then
              (if (lg_cmp (o43.2.2 38 (0 : Int32).toNatClampNeg) (0 : Int64)) = 0 then f_LW_loop L xs n (x4 + 4) o43.2 else
              some (0 : Int32))
            else
            if (lg_cmp (o43.2.2 38 (0 : Int32).toNatClampNeg) (1 : Int64)) = 0 then f_LW_loop L xs n (x4 + 4) o43.2 else
            some (0 : Int32))
          else
          f_LW_loop L xs n (x4 + 4) o43.2)
        else
        some (0 : Int32))
      else
      (f_RM_bar (xs (x4 + (1 : Int32)).toNatClampNeg) (xs (x4 + (2 : Int32)).toNatClampNeg) (1 : Int32) o42.2).bind fun o46 =>
      (f_RM_thrown o46.2).bind fun o47 =>
      if o47 = o42.1 then
        (if o42.1 = 0 then
          (if oob (0 : Int32) 1 then none else
          if o46.1 = 0 then
            (if (lg_cmp (o46.2.2 38 (0 : Int32).toNatClampNeg) (0 : Int64)) = 0 then f_LW_loop L xs n (x4 + 4) o46.2 else
            some (0 : Int32))
          else
          if (lg_cmp (o46.2.2 38 (0 : Int32).toNatClampNeg) (1 : Int64)) = 0 then f_LW_loop L xs n (x4 + 4) o46.2 else
          some (0 : Int32))
        else
        f_LW_loop L xs n (x4 + 4) o46.2)
      else
      some (0 : Int32))
    else
    if ((xs x4.toNatClampNeg) &&& (15 : Int32)) = 5 then
      (if oob (x4 + (1 : Int32)) L then none else
      (f_LW_top (xs (x4 + (1 : Int32)).toNatClampNeg) S).bind fun o50 =>
      (f_RM_top (xs (x4 + (1 : Int32)).toNatClampNeg) o50.2).bind fun o51 =>
      (f_RM_thrown o51.2).bind fun o52 =>
      if o52 = o50.1 then
        (if o50.1 = 0 then
          (if oob (0 : Int32) 1 then none else
          if (lg_cmp (o51.2.2 38 (0 : Int32).toNatClampNeg) o51.1.toInt64) = 0 then f_LW_loop L xs n (x4 + 4) o51.2 else
          some (0 : Int32))
        else
        f_LW_loop L xs n (x4 + 4) o51.2)
      else
      some (0 : Int32))
    else
    if ((xs x4.toNatClampNeg) &&& (15 : Int32)) = 6 then
      (if oob (x4 + (1 : Int32)) L then none else
      (f_LW_run (xs (x4 + (1 : Int32)).toNatClampNeg) S).bind fun o55 =>
      (f_RM_run (xs (x4 + (1 : Int32)).toNatClampNeg) o55.2).bind fun o56 =>
      (f_RM_thrown o56.2).bind fun o57 =>
      if o57 = o55.1 then
        (if o55.1 = 0 then
          (if oob (0 : Int32) 1 then none else
          if (lg_cmp (o56.2.2 38 (0 : Int32).toNatClampNeg) o56.1.toInt64) = 0 then f_LW_loop L xs n (x4 + 4) o56.2 else
          some (0 : Int32))
        else
        f_LW_loop L xs n (x4 + 4) o56.2)
      else
      some (0 : Int32))
    else
    if ((xs x4.toNatClampNeg) &&& (15 : Int32)) = 7 then
      ((f_MK_tries S).bind fun o59 =>
      (f_RM_tries S).bind fun o60 =>
      if o59 = o60.1 then f_LW_loop L xs n (x4 + 4) o60.2 else
      some (0 : Int32))
    else
    if ((xs x4.toNatClampNeg) &&& (15 : Int32)) = 8 then
      (if oob (x4 + (1 : Int32)) L then none else
      if oob (x4 + (2 : Int32)) L then none else
      (f_LW_cut (xs (x4 + (1 : Int32)).toNatClampNeg) (xs (x4 + (2 : Int32)).toNatClampNeg) S).bind fun o63 =>
      (f_RM_cut (xs (x4 + (1 : Int32)).toNatClampNeg) (xs (x4 + (2 : Int32)).toNatClampNeg) o63.2).bind fun o64 =>
      (f_RM_thrown o64.2).bind fun o65 =>
      if o65 = o63.1 then
        (if o63.1 = 0 then
          (if oob (0 : Int32) 1 then none else
          if (lg_cmp (o64.2.2 38 (0 : Int32).toNatClampNeg) o64.1.toInt64) = 0 then f_LW_loop L xs n (x4 + 4) o64.2 else
          some (0 : Int32))
        else
        f_LW_loop L xs n (x4 + 4) o64.2)
      else
      some (0 : Int32))
    else
    if ((xs x4.toNatClampNeg) &&& (15 : Int32)) = 9 then
      (if oob (x4 + (1 : Int32)) L then none else
      if oob (x4 + (2 : Int32)) L then none else
      if oob (x4 + (3 : Int32)) L then none else
      (f_LW_holds (xs (x4 + (1 : Int32)).toNatClampNeg) (xs (x4 + (2 : Int32)).toNatClampNeg) (xs (x4 + (3 : Int32)).toNatClampNeg) S).bind fun o70 =>
      (f_RM_holds (xs (x4 + (1 : Int32)).toNatClampNeg) (xs (x4 + (2 : Int32)).toNatClampNeg) (xs (x4 + (3 : Int32)).toNatClampNeg) o70.2).bind fun o71 =>
      (f_RM_thrown o71.2).bind fun o72 =>
      if o72 = o70.1 then
        (if o70.1 = 0 then
          (if oob (0 : Int32) 1 then none else
          if o71.1 = 0 then
            (if (lg_cmp (o71.2.2 38 (0 : Int32).toNatClampNeg) (0 : Int64)) = 0 then f_LW_loop L xs n (x4 + 4) o71.2 else
            some (0 : Int32))
          else
          if (lg_cmp (o71.2.2 38 (0 : Int32).toNatClampNeg) (1 : Int64)) = 0 then f_LW_loop L xs n (x4 + 4) o71.2 else
          some (0 : Int32))
        else
        f_LW_loop L xs n (x4 + 4) o71.2)
      else
      some (0 : Int32))
    else
    if ((xs x4.toNatClampNeg) &&& (15 : Int32)) = 10 then
      (if oob (x4 + (1 : Int32)) L then none else
      if oob (x4 + (2 : Int32)) L then none else
      (f_LW_fits (xs (x4 + (1 : Int32)).toNatClampNeg) (xs (x4 + (2 : Int32)).toNatClampNeg) S).bind fun o76 =>
      (f_RM_fits (xs (x4 + (1 : Int32)).toNatClampNeg) (xs (x4 + (2 : Int32)).toNatClampNeg) o76.2).bind fun o77 =>
      (f_RM_thrown o77.2).bind fun o78 =>
      if o78 = o76.1 then
        (if o76.1 = 0 then
          (if oob (0 : Int32) 1 then none else
          if o77.1 = 0 then
            (if (lg_cmp (o77.2.2 38 (0 : Int32).toNatClampNeg) (0 : Int64)) = 0 then f_LW_loop L xs n (x4 + 4) o77.2 else
            some (0 : Int32))
          else
          if (lg_cmp (o77.2.2 38 (0 : Int32).toNatClampNeg) (1 : Int64)) = 0 then f_LW_loop L xs n (x4 + 4) o77.2 else
          some (0 : Int32))
        else
        f_LW_loop L xs n (x4 + 4) o77.2)
      else
      some (0 : Int32))
    else
    if ((xs x4.toNatClampNeg) &&& (15 : Int32)) = 11 then
      ((f_MK_wrong S).bind fun o80 =>
      (f_RM_wrong S).bind fun o81 =>
      if o80 = o81.1 then f_LW_loop L xs n (x4 + 4) o81.2 else
      some (0 : Int32))
    else
    if ((xs x4.toNatClampNeg) &&& (15 : Int32)) = 12 then
      ((f_LW_left S).bind fun o82 =>
      (f_RM_left o82.2).bind fun o83 =>
      (f_RM_thrown o83.2).bind fun o84 =>
      if o84 = o82.1 then
        (if o82.1 = 0 then
          (if oob (0 : Int32) 1 then none else
          if (lg_cmp (o83.2.2 38 (0 : Int32).toNatClampNeg) o83.1.toInt64) = 0 then f_LW_loop L xs n (x4 + 4) o83.2 else
          some (0 : Int32))
        else
        f_LW_loop L xs n (x4 + 4) o83.2)
      else
      some (0 : Int32))
    else
    if ((xs x4.toNatClampNeg) &&& (15 : Int32)) = 13 then
      (if oob (x4 + (1 : Int32)) L then none else
      (f_LW_add (xs (x4 + (1 : Int32)).toNatClampNeg) S).bind fun o87 =>
      (f_RM_add (xs (x4 + (1 : Int32)).toNatClampNeg) o87.2).bind fun o88 =>
      (f_RM_thrown o88.2).bind fun o89 =>
      if o89 = o87.1 then
        (if o87.1 = 0 then
          (if oob (0 : Int32) 1 then none else
          if (lg_cmp (o88.2.2 38 (0 : Int32).toNatClampNeg) o88.1.toInt64) = 0 then f_LW_loop L xs n (x4 + 4) o88.2 else
          some (0 : Int32))
        else
        f_LW_loop L xs n (x4 + 4) o88.2)
      else
      some (0 : Int32))
    else
    if ((xs x4.toNatClampNeg) &&& (15 : Int32)) = 14 then
      (if oob (x4 + (1 : Int32)) L then none else
      (f_LW_heirs (xs (x4 + (1 : Int32)).toNatClampNeg) S).bind fun o92 =>
      (f_RM_heirs (xs (x4 + (1 : Int32)).toNatClampNeg) o92.2).bind fun o93 =>
      (f_RM_thrown o93.2).bind fun o94 =>
      if o94 = o92.1 then
        (if o92.1 = 0 then
          (if oob (0 : Int32) 1 then none else
          if (lg_cmp (o93.2.2 38 (0 : Int32).toNatClampNeg) o93.1.toInt64) = 0 then f_LW_loop L xs n (x4 + 4) o93.2 else
          some (0 : Int32))
        else
        f_LW_loop L xs n (x4 + 4) o93.2)
      else
      some (0 : Int32))
    else
    f_LW_loop L xs n (x4 + 4) S
theorem f_LW_loop_s (L : Nat) (xs : Nat → Int32) (n : Nat) (x4 : Int32) (S : SS) : f_LW_loop L xs (n + 1) x4 S =
    if ((Int32.ofNat L) - (4 : Int32)) < x4 then some (1 : Int32) else
    if oob x4 L then none else
    if ((xs x4.toNatClampNeg) &&& (15 : Int32)) = 0 then
      ((f_LW_key S).bind fun o2 =>
      (f_RM_key o2.2).bind fun o3 =>
      (f_RM_thrown o3.2).bind fun o4 =>
      if o4 = o2.1 then
        (if o2.1 = 0 then
          (if oob (0 : Int32) 1 then none else
          if (lg_cmp (o3.2.2 38 (0 : Int32).toNatClampNeg) o3.1.toInt64) = 0 then f_LW_loop L xs n (x4 + 4) o3.2 else
          some (0 : Int32))
        else
        f_LW_loop L xs n (x4 + 4) o3.2)
      else
      some (0 : Int32))
    else
    if ((xs x4.toNatClampNeg) &&& (15 : Int32)) = 1 then
      ((f_LW_door S).bind fun o6 =>
      (f_RM_door o6.2).bind fun o7 =>
      (f_RM_thrown o7.2).bind fun o8 =>
      if o8 = o6.1 then
        (if o6.1 = 0 then
          (if oob (0 : Int32) 1 then none else
          if (lg_cmp (o7.2.2 38 (0 : Int32).toNatClampNeg) o7.1.toInt64) = 0 then f_LW_loop L xs n (x4 + 4) o7.2 else
          some (0 : Int32))
        else
        f_LW_loop L xs n (x4 + 4) o7.2)
      else
      some (0 : Int32))
    else
    if ((xs x4.toNatClampNeg) &&& (15 : Int32)) = 2 then
      (if oob (x4 + (1 : Int32)) L then none else
      if oob (x4 + (2 : Int32)) L then none else
      if oob (x4 + (3 : Int32)) L then none else
      if (xs (x4 + (3 : Int32)).toNatClampNeg) = 0 then
        ((f_LW_must (xs (x4 + (1 : Int32)).toNatClampNeg) (xs (x4 + (2 : Int32)).toNatClampNeg) (0 : Int32) S).bind fun o13 =>
        if (xs (x4 + (3 : Int32)).toNatClampNeg) = 0 then
          ((f_RM_must (xs (x4 + (1 : Int32)).toNatClampNeg) (xs (x4 + (2 : Int32)).toNatClampNeg) (0 : Int32) o13.2).bind fun o14 =>
          (f_RM_thrown o14.2).bind fun o15 =>
          if o15 = o13.1 then
            (if o13.1 = 0 then
              (if oob (0 : Int32) 1 then none else
              if o14.1 = 0 then
                (if (lg_cmp (o14.2.2 38 (0 : Int32).toNatClampNeg) (0 : Int64)) = 0 then f_LW_loop L xs n (x4 + 4) o14.2 else
                some (0 : Int32))
              else
              if (lg_cmp (o14.2.2 38 (0 : Int32).toNatClampNeg) (1 : Int64)) = 0 then f_LW_loop L xs n (x4 + 4) o14.2 else
              some (0 : Int32))
            else
            f_LW_loop L xs n (x4 + 4) o14.2)
          else
          some (0 : Int32))
        else
        (f_RM_must (xs (x4 + (1 : Int32)).toNatClampNeg) (xs (x4 + (2 : Int32)).toNatClampNeg) (1 : Int32) o13.2).bind fun o17 =>
        (f_RM_thrown o17.2).bind fun o18 =>
        if o18 = o13.1 then
          (if o13.1 = 0 then
            (if oob (0 : Int32) 1 then none else
            if o17.1 = 0 then
              (if (lg_cmp (o17.2.2 38 (0 : Int32).toNatClampNeg) (0 : Int64)) = 0 then f_LW_loop L xs n (x4 + 4) o17.2 else
              some (0 : Int32))
            else
            if (lg_cmp (o17.2.2 38 (0 : Int32).toNatClampNeg) (1 : Int64)) = 0 then f_LW_loop L xs n (x4 + 4) o17.2 else
            some (0 : Int32))
          else
          f_LW_loop L xs n (x4 + 4) o17.2)
        else
        some (0 : Int32))
      else
      (f_LW_must (xs (x4 + (1 : Int32)).toNatClampNeg) (xs (x4 + (2 : Int32)).toNatClampNeg) (1 : Int32) S).bind fun o20 =>
      if (xs (x4 + (3 : Int32)).toNatClampNeg) = 0 then
        ((f_RM_must (xs (x4 + (1 : Int32)).toNatClampNeg) (xs (x4 + (2 : Int32)).toNatClampNeg) (0 : Int32) o20.2).bind fun o21 =>
        (f_RM_thrown o21.2).bind fun o22 =>
        if o22 = o20.1 then
          (if o20.1 = 0 then
            (if oob (0 : Int32) 1 then none else
            if o21.1 = 0 then
              (if (lg_cmp (o21.2.2 38 (0 : Int32).toNatClampNeg) (0 : Int64)) = 0 then f_LW_loop L xs n (x4 + 4) o21.2 else
              some (0 : Int32))
            else
            if (lg_cmp (o21.2.2 38 (0 : Int32).toNatClampNeg) (1 : Int64)) = 0 then f_LW_loop L xs n (x4 + 4) o21.2 else
            some (0 : Int32))
          else
          f_LW_loop L xs n (x4 + 4) o21.2)
        else
        some (0 : Int32))
      else
      (f_RM_must (xs (x4 + (1 : Int32)).toNatClampNeg) (xs (x4 + (2 : Int32)).toNatClampNeg) (1 : Int32) o20.2).bind fun o24 =>
      (f_RM_thrown o24.2).bind fun o25 =>
      if o25 = o20.1 then
        (if o20.1 = 0 then
          (if oob (0 : Int32) 1 then none else
          if o24.1 = 0 then
            (if (lg_cmp (o24.2.2 38 (0 : Int32).toNatClampNeg) (0 : Int64)) = 0 then f_LW_loop L xs n (x4 + 4) o24.2 else
            some (0 : Int32))
          else
          if (lg_cmp (o24.2.2 38 (0 : Int32).toNatClampNeg) (1 : Int64)) = 0 then f_LW_loop L xs n (x4 + 4) o24.2 else
          some (0 : Int32))
        else
        f_LW_loop L xs n (x4 + 4) o24.2)
      else
      some (0 : Int32))
    else
    if ((xs x4.toNatClampNeg) &&& (15 : Int32)) = 3 then
      (if oob (x4 + (1 : Int32)) L then none else
      (f_LW_step (xs (x4 + (1 : Int32)).toNatClampNeg) S).bind fun o28 =>
      (f_RM_step (xs (x4 + (1 : Int32)).toNatClampNeg) o28.2).bind fun o29 =>
      (f_RM_thrown o29.2).bind fun o30 =>
      if o30 = o28.1 then
        (if o28.1 = 0 then
          (if oob (0 : Int32) 1 then none else
          if (lg_cmp (o29.2.2 38 (0 : Int32).toNatClampNeg) o29.1.toInt64) = 0 then f_LW_loop L xs n (x4 + 4) o29.2 else
          some (0 : Int32))
        else
        f_LW_loop L xs n (x4 + 4) o29.2)
      else
      some (0 : Int32))
    else
    if ((xs x4.toNatClampNeg) &&& (15 : Int32)) = 4 then
      (if oob (x4 + (1 : Int32)) L then none else
      if oob (x4 + (2 : Int32)) L then none else
      if oob (x4 + (3 : Int32)) L then none else
      if (xs (x4 + (3 : Int32)).toNatClampNeg) = 0 then
        ((f_LW_bar (xs (x4 + (1 : Int32)).toNatClampNeg) (xs (x4 + (2 : Int32)).toNatClampNeg) (0 : Int32) S).bind fun o35 =>
        if (xs (x4 + (3 : Int32)).toNatClampNeg) = 0 then
          ((f_RM_bar (xs (x4 + (1 : Int32)).toNatClampNeg) (xs (x4 + (2 : Int32)).toNatClampNeg) (0 : Int32) o35.2).bind fun o36 =>
          (f_RM_thrown o36.2).bind fun o37 =>
          if o37 = o35.1 then
            (if o35.1 = 0 then
              (if oob (0 : Int32) 1 then none else
              if o36.1 = 0 then
                (if (lg_cmp (o36.2.2 38 (0 : Int32).toNatClampNeg) (0 : Int64)) = 0 then f_LW_loop L xs n (x4 + 4) o36.2 else
                some (0 : Int32))
              else
              if (lg_cmp (o36.2.2 38 (0 : Int32).toNatClampNeg) (1 : Int64)) = 0 then f_LW_loop L xs n (x4 + 4) o36.2 else
              some (0 : Int32))
            else
            f_LW_loop L xs n (x4 + 4) o36.2)
          else
          some (0 : Int32))
        else
        (f_RM_bar (xs (x4 + (1 : Int32)).toNatClampNeg) (xs (x4 + (2 : Int32)).toNatClampNeg) (1 : Int32) o35.2).bind fun o39 =>
        (f_RM_thrown o39.2).bind fun o40 =>
        if o40 = o35.1 then
          (if o35.1 = 0 then
            (if oob (0 : Int32) 1 then none else
            if o39.1 = 0 then
              (if (lg_cmp (o39.2.2 38 (0 : Int32).toNatClampNeg) (0 : Int64)) = 0 then f_LW_loop L xs n (x4 + 4) o39.2 else
              some (0 : Int32))
            else
            if (lg_cmp (o39.2.2 38 (0 : Int32).toNatClampNeg) (1 : Int64)) = 0 then f_LW_loop L xs n (x4 + 4) o39.2 else
            some (0 : Int32))
          else
          f_LW_loop L xs n (x4 + 4) o39.2)
        else
        some (0 : Int32))
      else
      (f_LW_bar (xs (x4 + (1 : Int32)).toNatClampNeg) (xs (x4 + (2 : Int32)).toNatClampNeg) (1 : Int32) S).bind fun o42 =>
      if (xs (x4 + (3 : Int32)).toNatClampNeg) = 0 then
        ((f_RM_bar (xs (x4 + (1 : Int32)).toNatClampNeg) (xs (x4 + (2 : Int32)).toNatClampNeg) (0 : Int32) o42.2).bind fun o43 =>
        (f_RM_thrown o43.2).bind fun o44 =>
        if o44 = o42.1 then
          (if o42.1 = 0 then
            (if oob (0 : Int32) 1 then none else
            if o43.1 = 0 then
              (if (lg_cmp (o43.2.2 38 (0 : Int32).toNatClampNeg) (0 : Int64)) = 0 then f_LW_loop L xs n (x4 + 4) o43.2 else
              some (0 : Int32))
            else
            if (lg_cmp (o43.2.2 38 (0 : Int32).toNatClampNeg) (1 : Int64)) = 0 then f_LW_loop L xs n (x4 + 4) o43.2 else
            some (0 : Int32))
          else
          f_LW_loop L xs n (x4 + 4) o43.2)
        else
        some (0 : Int32))
      else
      (f_RM_bar (xs (x4 + (1 : Int32)).toNatClampNeg) (xs (x4 + (2 : Int32)).toNatClampNeg) (1 : Int32) o42.2).bind fun o46 =>
      (f_RM_thrown o46.2).bind fun o47 =>
      if o47 = o42.1 then
        (if o42.1 = 0 then
          (if oob (0 : Int32) 1 then none else
          if o46.1 = 0 then
            (if (lg_cmp (o46.2.2 38 (0 : Int32).toNatClampNeg) (0 : Int64)) = 0 then f_LW_loop L xs n (x4 + 4) o46.2 else
            some (0 : Int32))
          else
          if (lg_cmp (o46.2.2 38 (0 : Int32).toNatClampNeg) (1 : Int64)) = 0 then f_LW_loop L xs n (x4 + 4) o46.2 else
          some (0 : Int32))
        else
        f_LW_loop L xs n (x4 + 4) o46.2)
      else
      some (0 : Int32))
    else
    if ((xs x4.toNatClampNeg) &&& (15 : Int32)) = 5 then
      (if oob (x4 + (1 : Int32)) L then none else
      (f_LW_top (xs (x4 + (1 : Int32)).toNatClampNeg) S).bind fun o50 =>
      (f_RM_top (xs (x4 + (1 : Int32)).toNatClampNeg) o50.2).bind fun o51 =>
      (f_RM_thrown o51.2).bind fun o52 =>
      if o52 = o50.1 then
        (if o50.1 = 0 then
          (if oob (0 : Int32) 1 then none else
          if (lg_cmp (o51.2.2 38 (0 : Int32).toNatClampNeg) o51.1.toInt64) = 0 then f_LW_loop L xs n (x4 + 4) o51.2 else
          some (0 : Int32))
        else
        f_LW_loop L xs n (x4 + 4) o51.2)
      else
      some (0 : Int32))
    else
    if ((xs x4.toNatClampNeg) &&& (15 : Int32)) = 6 then
      (if oob (x4 + (1 : Int32)) L then none else
      (f_LW_run (xs (x4 + (1 : Int32)).toNatClampNeg) S).bind fun o55 =>
      (f_RM_run (xs (x4 + (1 : Int32)).toNatClampNeg) o55.2).bind fun o56 =>
      (f_RM_thrown o56.2).bind fun o57 =>
      if o57 = o55.1 then
        (if o55.1 = 0 then
          (if oob (0 : Int32) 1 then none else
          if (lg_cmp (o56.2.2 38 (0 : Int32).toNatClampNeg) o56.1.toInt64) = 0 then f_LW_loop L xs n (x4 + 4) o56.2 else
          some (0 : Int32))
        else
        f_LW_loop L xs n (x4 + 4) o56.2)
      else
      some (0 : Int32))
    else
    if ((xs x4.toNatClampNeg) &&& (15 : Int32)) = 7 then
      ((f_MK_tries S).bind fun o59 =>
      (f_RM_tries S).bind fun o60 =>
      if o59 = o60.1 then f_LW_loop L xs n (x4 + 4) o60.2 else
      some (0 : Int32))
    else
    if ((xs x4.toNatClampNeg) &&& (15 : Int32)) = 8 then
      (if oob (x4 + (1 : Int32)) L then none else
      if oob (x4 + (2 : Int32)) L then none else
      (f_LW_cut (xs (x4 + (1 : Int32)).toNatClampNeg) (xs (x4 + (2 : Int32)).toNatClampNeg) S).bind fun o63 =>
      (f_RM_cut (xs (x4 + (1 : Int32)).toNatClampNeg) (xs (x4 + (2 : Int32)).toNatClampNeg) o63.2).bind fun o64 =>
      (f_RM_thrown o64.2).bind fun o65 =>
      if o65 = o63.1 then
        (if o63.1 = 0 then
          (if oob (0 : Int32) 1 then none else
          if (lg_cmp (o64.2.2 38 (0 : Int32).toNatClampNeg) o64.1.toInt64) = 0 then f_LW_loop L xs n (x4 + 4) o64.2 else
          some (0 : Int32))
        else
        f_LW_loop L xs n (x4 + 4) o64.2)
      else
      some (0 : Int32))
    else
    if ((xs x4.toNatClampNeg) &&& (15 : Int32)) = 9 then
      (if oob (x4 + (1 : Int32)) L then none else
      if oob (x4 + (2 : Int32)) L then none else
      if oob (x4 + (3 : Int32)) L then none else
      (f_LW_holds (xs (x4 + (1 : Int32)).toNatClampNeg) (xs (x4 + (2 : Int32)).toNatClampNeg) (xs (x4 + (3 : Int32)).toNatClampNeg) S).bind fun o70 =>
      (f_RM_holds (xs (x4 + (1 : Int32)).toNatClampNeg) (xs (x4 + (2 : Int32)).toNatClampNeg) (xs (x4 + (3 : Int32)).toNatClampNeg) o70.2).bind fun o71 =>
      (f_RM_thrown o71.2).bind fun o72 =>
      if o72 = o70.1 then
        (if o70.1 = 0 then
          (if oob (0 : Int32) 1 then none else
          if o71.1 = 0 then
            (if (lg_cmp (o71.2.2 38 (0 : Int32).toNatClampNeg) (0 : Int64)) = 0 then f_LW_loop L xs n (x4 + 4) o71.2 else
            some (0 : Int32))
          else
          if (lg_cmp (o71.2.2 38 (0 : Int32).toNatClampNeg) (1 : Int64)) = 0 then f_LW_loop L xs n (x4 + 4) o71.2 else
          some (0 : Int32))
        else
        f_LW_loop L xs n (x4 + 4) o71.2)
      else
      some (0 : Int32))
    else
    if ((xs x4.toNatClampNeg) &&& (15 : Int32)) = 10 then
      (if oob (x4 + (1 : Int32)) L then none else
      if oob (x4 + (2 : Int32)) L then none else
      (f_LW_fits (xs (x4 + (1 : Int32)).toNatClampNeg) (xs (x4 + (2 : Int32)).toNatClampNeg) S).bind fun o76 =>
      (f_RM_fits (xs (x4 + (1 : Int32)).toNatClampNeg) (xs (x4 + (2 : Int32)).toNatClampNeg) o76.2).bind fun o77 =>
      (f_RM_thrown o77.2).bind fun o78 =>
      if o78 = o76.1 then
        (if o76.1 = 0 then
          (if oob (0 : Int32) 1 then none else
          if o77.1 = 0 then
            (if (lg_cmp (o77.2.2 38 (0 : Int32).toNatClampNeg) (0 : Int64)) = 0 then f_LW_loop L xs n (x4 + 4) o77.2 else
            some (0 : Int32))
          else
          if (lg_cmp (o77.2.2 38 (0 : Int32).toNatClampNeg) (1 : Int64)) = 0 then f_LW_loop L xs n (x4 + 4) o77.2 else
          some (0 : Int32))
        else
        f_LW_loop L xs n (x4 + 4) o77.2)
      else
      some (0 : Int32))
    else
    if ((xs x4.toNatClampNeg) &&& (15 : Int32)) = 11 then
      ((f_MK_wrong S).bind fun o80 =>
      (f_RM_wrong S).bind fun o81 =>
      if o80 = o81.1 then f_LW_loop L xs n (x4 + 4) o81.2 else
      some (0 : Int32))
    else
    if ((xs x4.toNatClampNeg) &&& (15 : Int32)) = 12 then
      ((f_LW_left S).bind fun o82 =>
      (f_RM_left o82.2).bind fun o83 =>
      (f_RM_thrown o83.2).bind fun o84 =>
      if o84 = o82.1 then
        (if o82.1 = 0 then
          (if oob (0 : Int32) 1 then none else
          if (lg_cmp (o83.2.2 38 (0 : Int32).toNatClampNeg) o83.1.toInt64) = 0 then f_LW_loop L xs n (x4 + 4) o83.2 else
          some (0 : Int32))
        else
        f_LW_loop L xs n (x4 + 4) o83.2)
      else
      some (0 : Int32))
    else
    if ((xs x4.toNatClampNeg) &&& (15 : Int32)) = 13 then
      (if oob (x4 + (1 : Int32)) L then none else
      (f_LW_add (xs (x4 + (1 : Int32)).toNatClampNeg) S).bind fun o87 =>
      (f_RM_add (xs (x4 + (1 : Int32)).toNatClampNeg) o87.2).bind fun o88 =>
      (f_RM_thrown o88.2).bind fun o89 =>
      if o89 = o87.1 then
        (if o87.1 = 0 then
          (if oob (0 : Int32) 1 then none else
          if (lg_cmp (o88.2.2 38 (0 : Int32).toNatClampNeg) o88.1.toInt64) = 0 then f_LW_loop L xs n (x4 + 4) o88.2 else
          some (0 : Int32))
        else
        f_LW_loop L xs n (x4 + 4) o88.2)
      else
      some (0 : Int32))
    else
    if ((xs x4.toNatClampNeg) &&& (15 : Int32)) = 14 then
      (if oob (x4 + (1 : Int32)) L then none else
      (f_LW_heirs (xs (x4 + (1 : Int32)).toNatClampNeg) S).bind fun o92 =>
      (f_RM_heirs (xs (x4 + (1 : Int32)).toNatClampNeg) o92.2).bind fun o93 =>
      (f_RM_thrown o93.2).bind fun o94 =>
      if o94 = o92.1 then
        (if o92.1 = 0 then
          (if oob (0 : Int32) 1 then none else
          if (lg_cmp (o93.2.2 38 (0 : Int32).toNatClampNeg) o93.1.toInt64) = 0 then f_LW_loop L xs n (x4 + 4) o93.2 else
          some (0 : Int32))
        else
        f_LW_loop L xs n (x4 + 4) o93.2)
      else
      some (0 : Int32))
    else
    f_LW_loop L xs n (x4 + 4) S := rfl
