def fn_X3_in (T : Nat) (x0 : Int32) (x1 : Int32) (σ : gS) : Option (Int32 × gS) :=
  if x0 < 0 then
    some (0, σ)
  else
    if x1 ≤ x0 then
      some (0, σ)
    else
      some (1, σ)
def fn_X3_run_L28 (T : Nat) : Nat → Int32 → Int32 → gS → Option (Int32 × gS)
  | 0, _, _, _ => none
  | n + 1, z1, z2, σ =>
    if (3 * (σ 0 0)) ≤ (z1 + z2) then
      some (z2, σ)
    else
      gs_gd (z1 + z2) 63 <|
      if (σ 6 (z1 + z2).toNatClampNeg) = 0 then
        fn_X3_run_L28 T n z1 (z2 + 1) σ
      else
        some (z2, σ)
def fn_X3_run (T : Nat) (x1 : Int32) (σ : gS) : Option (Int32 × gS) :=
  gs_gd x1 63 <|
  if (σ 6 x1.toNatClampNeg) = 0 then
    if x1 ≤ 0 then
      fn_X3_run_L28 T gs_fu x1 0 σ
    else
      gs_gd (x1 - 1) 63 <|
      if (σ 6 (x1 - 1).toNatClampNeg) = 0 then
        some (0, σ)
      else
        fn_X3_run_L28 T gs_fu x1 0 σ
  else
    some (0, σ)
def fn_X3_give_L3 (T : Nat) : Nat → Int32 → Int32 → Int32 → Int32 → gS → Option (Int32 × gS)
  | 0, _, _, _, _, _ => none
  | n + 1, z1, z2, z3, z4, σ =>
    if (z2 + z3) ≤ z4 then
      gs_gd z1 8 <|
      gs_gd ((3 * z1) + (σ 9 z1.toNatClampNeg)) 24 <|
      gs_lt (gs_st σ 7 (upd (σ 7) ((3 * z1) + (σ 9 z1.toNatClampNeg)).toNatClampNeg z2)) fun σ1 =>
      gs_gd z1 8 <|
      gs_gd ((3 * z1) + (σ1 9 z1.toNatClampNeg)) 24 <|
      gs_lt (gs_st σ1 8 (upd (σ1 8) ((3 * z1) + (σ1 9 z1.toNatClampNeg)).toNatClampNeg z3)) fun σ2 =>
      gs_gd z1 8 <|
      gs_gd z1 8 <|
      gs_lt (gs_st σ2 9 (upd (σ2 9) z1.toNatClampNeg ((σ2 9 z1.toNatClampNeg) + 1))) fun σ3 =>
      some (0, σ3)
    else
      gs_gd z4 63 <|
      gs_lt (gs_st σ 6 (upd (σ 6) z4.toNatClampNeg (1 + z1))) fun σ4 =>
      fn_X3_give_L3 T n z1 z2 z3 (z4 + 1) σ4
def fn_X3_give (T : Nat) (x1 : Int32) (x2 : Int32) (x3 : Int32) (σ : gS) : Option (Int32 × gS) :=
  fn_X3_give_L3 T gs_fu x1 x2 x3 x2 σ
def fn_X3_longest_L4 (T : Nat) : Nat → Int32 → Int32 → gS → Option (Int32 × gS)
  | 0, _, _, _ => none
  | n + 1, z1, z2, σ =>
    if (3 * (σ 0 0)) ≤ z2 then
      some (z1, σ)
    else
      gs_ob (fn_X3_run T z2 σ) fun r1 σ2 =>
      gs_ob (fn_X3_run T z1 σ2) fun r3 σ4 =>
      if r1 ≤ r3 then
        fn_X3_longest_L4 T n z1 (z2 + 1) σ4
      else
        fn_X3_longest_L4 T n z2 (z2 + 1) σ4
def fn_X3_longest (T : Nat) (σ : gS) : Option (Int32 × gS) :=
  fn_X3_longest_L4 T gs_fu 0 0 σ
def fn_X3_place_L41 (T : Nat) : Nat → Int32 → Int32 → Int32 → gS → Option (Int32 × gS)
  | 0, _, _, _, _ => none
  | n + 1, z1, z3, z4, σ =>
    if 3 ≤ z4 then
      if z3 = 0 then
        some (1, σ)
      else
        some (0, σ)
    else
      if z3 ≤ 0 then
        if z3 = 0 then
          some (1, σ)
        else
          some (0, σ)
      else
        gs_ob (fn_X3_longest T σ) fun r1 σ2 =>
        gs_ob (fn_X3_run T r1 σ2) fun r3 σ4 =>
        if z3 ≤ r3 then
          if z3 = 0 then
            some (0, σ4)
          else
            gs_ob (fn_X3_give T z1 r1 z3 σ4) fun _ σ6 =>
            fn_X3_place_L41 T n z1 (z3 - z3) (z4 + 1) σ6
        else
          gs_ob (fn_X3_run T r1 σ4) fun r7 σ8 =>
          if r7 = 0 then
            some (0, σ8)
          else
            gs_ob (fn_X3_give T z1 r1 r7 σ8) fun _ σ10 =>
            fn_X3_place_L41 T n z1 (z3 - r7) (z4 + 1) σ10
def fn_X3_place_L2 (T : Nat) : Nat → Int32 → Int32 → Int32 → gS → Option (Int32 × gS)
  | 0, _, _, _, _ => none
  | n + 1, z1, z2, z3, σ =>
    if (3 * (σ 0 0)) ≤ z3 then
      fn_X3_place_L41 T gs_fu z1 z2 0 σ
    else
      gs_ob (fn_X3_run T z3 σ) fun r11 σ12 =>
      if r11 < z2 then
        fn_X3_place_L2 T n z1 z2 (z3 + 1) σ12
      else
        gs_ob (fn_X3_give T z1 z3 z2 σ12) fun _ σ14 =>
        some (1, σ14)
def fn_X3_place (T : Nat) (x1 : Int32) (x2 : Int32) (σ : gS) : Option (Int32 × gS) :=
  fn_X3_place_L2 T gs_fu x1 x2 0 σ
def fn_X3_remove_L22 (T : Nat) : Nat → Int32 → Int32 → gS → Option (Int32 × gS)
  | 0, _, _, _ => none
  | n + 1, z1, z2, σ =>
    if 63 ≤ z2 then
      gs_gd z1 8 <|
      gs_lt (gs_st σ 9 (upd (σ 9) z1.toNatClampNeg 0)) fun σ3 =>
      some (0, σ3)
    else
      gs_gd z2 63 <|
      if (σ 6 z2.toNatClampNeg) = (1 + z1) then
        gs_gd z2 63 <|
        gs_lt (gs_st σ 6 (upd (σ 6) z2.toNatClampNeg 0)) fun σ4 =>
        fn_X3_remove_L22 T n z1 (z2 + 1) σ4
      else
        fn_X3_remove_L22 T n z1 (z2 + 1) σ
def fn_X3_remove (T : Nat) (x1 : Int32) (σ : gS) : Option (Int32 × gS) :=
  gs_ob (fn_X3_in T x1 8 σ) fun r1 σ2 =>
  if r1 = 0 then
    some ((-1), σ2)
  else
    gs_gd x1 8 <|
    if (σ2 9 x1.toNatClampNeg) = 0 then
      some ((-1), σ2)
    else
      fn_X3_remove_L22 T gs_fu x1 0 σ2
def fn_X3_create (T : Nat) (x1 : Int32) (x2 : Int32) (σ : gS) : Option (Int32 × gS) :=
  gs_ob (fn_X3_in T x1 8 σ) fun r1 σ2 =>
  if r1 = 0 then
    some ((-1), σ2)
  else
    if x2 < 1 then
      some ((-1), σ2)
    else
      if 63 < x2 then
        some ((-1), σ2)
      else
        gs_gd x1 8 <|
        if (σ2 9 x1.toNatClampNeg) ≤ 0 then
          gs_ob (fn_X3_place T x1 x2 σ2) fun r3 σ4 =>
          if r3 = 0 then
            gs_ob (fn_X3_remove T x1 σ4) fun r5 σ6 =>
            some ((-2), σ6)
          else
            gs_gd x1 8 <|
            some (σ4 9 x1.toNatClampNeg, σ4)
        else
          some ((-1), σ2)
def fn_X3_block_L20 (T : Nat) : Nat → Int32 → Int32 → Int32 → gS → Option (Int32 × gS)
  | 0, _, _, _, _ => none
  | n + 1, z1, z3, z4, σ =>
    gs_gd z1 8 <|
    if (σ 9 z1.toNatClampNeg) ≤ z4 then
      some ((-1), σ)
    else
      gs_gd ((3 * z1) + z4) 24 <|
      if (σ 8 ((3 * z1) + z4).toNatClampNeg) ≤ z3 then
        gs_gd ((3 * z1) + z4) 24 <|
        fn_X3_block_L20 T n z1 (z3 - (σ 8 ((3 * z1) + z4).toNatClampNeg)) (z4 + 1) σ
      else
        gs_gd ((3 * z1) + z4) 24 <|
        some ((σ 7 ((3 * z1) + z4).toNatClampNeg) + z3, σ)
def fn_X3_block (T : Nat) (x1 : Int32) (x2 : Int32) (σ : gS) : Option (Int32 × gS) :=
  gs_ob (fn_X3_in T x1 8 σ) fun r1 σ2 =>
  if r1 = 0 then
    some ((-1), σ2)
  else
    if 0 ≤ x2 then
      fn_X3_block_L20 T gs_fu x1 x2 0 σ2
    else
      some ((-1), σ2)
def fn_X3_wrong (T : Nat) (x1 : Int32) (σ : gS) : Option (Int32 × gS) :=
  gs_gd x1 84 <|
  if (σ 3 x1.toNatClampNeg) = 0 then
    gs_gd x1 84 <|
    gs_gd x1 84 <|
    if (σ 2 x1.toNatClampNeg) = (σ 1 x1.toNatClampNeg) then
      some (0, σ)
    else
      some (1, σ)
  else
    some (0, σ)
def fn_X3_broken_L6 (T : Nat) : Nat → Int32 → Int32 → Int32 → gS → Option (Int32 × gS)
  | 0, _, _, _, _ => none
  | n + 1, z1, z2, z3, σ =>
    if ((4 * z1) + 4) ≤ z3 then
      if z2 ≤ 1 then
        some (0, σ)
      else
        some (1, σ)
    else
      gs_gd z3 84 <|
      if (σ 3 z3.toNatClampNeg) = 0 then
        gs_ob (fn_X3_wrong T z3 σ) fun r1 σ2 =>
        if r1 = 0 then
          fn_X3_broken_L6 T n z1 z2 (z3 + 1) σ2
        else
          fn_X3_broken_L6 T n z1 (z2 + 1) (z3 + 1) σ2
      else
        fn_X3_broken_L6 T n z1 (z2 + 1) (z3 + 1) σ
def fn_X3_broken (T : Nat) (x1 : Int32) (σ : gS) : Option (Int32 × gS) :=
  fn_X3_broken_L6 T gs_fu x1 0 (4 * x1) σ
def fn_X3_mend_L16 (T : Nat) : Nat → Int32 → Int32 → Int32 → gS → Option (Int32 × gS)
  | 0, _, _, _, _ => none
  | n + 1, z1, z2, z3, σ =>
    if ((4 * z1) + 4) ≤ z3 then
      some (z2, σ)
    else
      gs_ob (fn_X3_wrong T z3 σ) fun r3 σ4 =>
      if r3 = 0 then
        fn_X3_mend_L16 T n z1 z2 (z3 + 1) σ4
      else
        gs_gd z3 84 <|
        gs_gd z3 84 <|
        gs_lt (gs_st σ4 2 (upd (σ4 2) z3.toNatClampNeg (σ4 1 z3.toNatClampNeg))) fun σ5 =>
        fn_X3_mend_L16 T n z1 (z2 + 1) (z3 + 1) σ5
def fn_X3_mend (T : Nat) (x1 : Int32) (σ : gS) : Option (Int32 × gS) :=
  gs_ob (fn_X3_broken T x1 σ) fun r1 σ2 =>
  if r1 = 0 then
    fn_X3_mend_L16 T gs_fu x1 0 (4 * x1) σ2
  else
    some (0, σ2)
def fn_X3_put (T : Nat) (x1 : Int32) (x2 : Int32) (σ : gS) : Option (Int32 × gS) :=
  gs_gd x1 84 <|
  gs_lt (gs_st σ 1 (upd (σ 1) x1.toNatClampNeg x2)) fun σ1 =>
  gs_gd x1 84 <|
  if (σ1 3 x1.toNatClampNeg) = 0 then
    gs_gd x1 84 <|
    gs_lt (gs_st σ1 2 (upd (σ1 2) x1.toNatClampNeg x2)) fun σ2 =>
    some (0, σ2)
  else
    some (0, σ1)
def fn_X3_write (T : Nat) (x1 : Int32) (x2 : Int32) (x3 : Int32) (x4 : Int32) (σ : gS) : Option (Int32 × gS) :=
  gs_ob (fn_X3_block T x1 x2 σ) fun r1 σ2 =>
  if 0 ≤ r1 then
    gs_ob (fn_X3_broken T (r1 / 3) σ2) fun r3 σ4 =>
    if r3 = 0 then
      gs_ob (fn_X3_mend T (r1 / 3) σ4) fun r5 σ6 =>
      if x4 = 0 then
        gs_ob (fn_X3_in T x4 4 σ6) fun r7 σ8 =>
        if r7 = 0 then
          some (0, σ8)
        else
          some ((-4), σ8)
      else
        if x4 = 1 then
          gs_ob (fn_X3_in T x4 4 σ6) fun r9 σ10 =>
          if r9 = 0 then
            some (0, σ10)
          else
            some ((-4), σ10)
        else
          if x4 = 2 then
            gs_gd ((4 * (r1 / 3)) + (r1 - r1 / 3 * 3)) 84 <|
            if (σ6 3 ((4 * (r1 / 3)) + (r1 - r1 / 3 * 3)).toNatClampNeg) = 0 then
              gs_ob (fn_X3_put T ((4 * (r1 / 3)) + (r1 - r1 / 3 * 3)) x3 σ6) fun _ σ18 =>
              gs_gd (4 * (r1 / 3)) 84 <|
              gs_gd ((4 * (r1 / 3)) + 1) 84 <|
              gs_gd ((4 * (r1 / 3)) + 2) 84 <|
              gs_ob (fn_X3_put T ((4 * (r1 / 3)) + 3) (((σ18 1 (4 * (r1 / 3)).toNatClampNeg) ^^^ (σ18 1 ((4 * (r1 / 3)) + 1).toNatClampNeg)) ^^^ (σ18 1 ((4 * (r1 / 3)) + 2).toNatClampNeg)) σ18) fun _ σ20 =>
              gs_ob (fn_X3_in T x4 4 σ20) fun r21 σ22 =>
              if r21 = 0 then
                some (0, σ22)
              else
                some ((-4), σ22)
            else
              gs_ob (fn_X3_in T x4 4 σ6) fun r23 σ24 =>
              if r23 = 0 then
                some (0, σ24)
              else
                some ((-4), σ24)
          else
            gs_ob (fn_X3_put T ((4 * (r1 / 3)) + (r1 - r1 / 3 * 3)) x3 σ6) fun _ σ12 =>
            gs_gd (4 * (r1 / 3)) 84 <|
            gs_gd ((4 * (r1 / 3)) + 1) 84 <|
            gs_gd ((4 * (r1 / 3)) + 2) 84 <|
            gs_ob (fn_X3_put T ((4 * (r1 / 3)) + 3) (((σ12 1 (4 * (r1 / 3)).toNatClampNeg) ^^^ (σ12 1 ((4 * (r1 / 3)) + 1).toNatClampNeg)) ^^^ (σ12 1 ((4 * (r1 / 3)) + 2).toNatClampNeg)) σ12) fun _ σ14 =>
            gs_ob (fn_X3_in T x4 4 σ14) fun r15 σ16 =>
            if r15 = 0 then
              some (0, σ16)
            else
              some ((-4), σ16)
    else
      some ((-3), σ4)
  else
    some ((-1), σ2)
def fn_X3_read (T : Nat) (x1 : Int32) (x2 : Int32) (σ : gS) : Option (Int64 × gS) :=
  gs_ob (fn_X3_block T x1 x2 σ) fun r1 σ2 =>
  if 0 ≤ r1 then
    gs_gd ((4 * (r1 / 3)) + (r1 - r1 / 3 * 3)) 84 <|
    if (σ2 3 ((4 * (r1 / 3)) + (r1 - r1 / 3 * 3)).toNatClampNeg) = 0 then
      gs_ob (fn_X3_wrong T ((4 * (r1 / 3)) + (r1 - r1 / 3 * 3)) σ2) fun r8 σ9 =>
      if r8 = 0 then
        gs_ob (fn_X3_wrong T ((4 * (r1 / 3)) + (r1 - r1 / 3 * 3)) σ9) fun r10 σ11 =>
        if r10 = 0 then
          gs_gd ((4 * (r1 / 3)) + (r1 - r1 / 3 * 3)) 84 <|
          some ((σ11 1 ((4 * (r1 / 3)) + (r1 - r1 / 3 * 3)).toNatClampNeg).toInt64, σ11)
        else
          gs_gd ((4 * (r1 / 3)) + (r1 - r1 / 3 * 3)) 84 <|
          gs_gd ((4 * (r1 / 3)) + (r1 - r1 / 3 * 3)) 84 <|
          gs_lt (gs_st σ11 2 (upd (σ11 2) ((4 * (r1 / 3)) + (r1 - r1 / 3 * 3)).toNatClampNeg (σ11 1 ((4 * (r1 / 3)) + (r1 - r1 / 3 * 3)).toNatClampNeg))) fun σ12 =>
          gs_gd ((4 * (r1 / 3)) + (r1 - r1 / 3 * 3)) 84 <|
          some ((σ12 1 ((4 * (r1 / 3)) + (r1 - r1 / 3 * 3)).toNatClampNeg).toInt64, σ12)
      else
        gs_ob (fn_X3_broken T (r1 / 3) σ9) fun r13 σ14 =>
        if r13 = 0 then
          gs_ob (fn_X3_wrong T ((4 * (r1 / 3)) + (r1 - r1 / 3 * 3)) σ14) fun r15 σ16 =>
          if r15 = 0 then
            gs_gd ((4 * (r1 / 3)) + (r1 - r1 / 3 * 3)) 84 <|
            some ((σ16 1 ((4 * (r1 / 3)) + (r1 - r1 / 3 * 3)).toNatClampNeg).toInt64, σ16)
          else
            gs_gd ((4 * (r1 / 3)) + (r1 - r1 / 3 * 3)) 84 <|
            gs_gd ((4 * (r1 / 3)) + (r1 - r1 / 3 * 3)) 84 <|
            gs_lt (gs_st σ16 2 (upd (σ16 2) ((4 * (r1 / 3)) + (r1 - r1 / 3 * 3)).toNatClampNeg (σ16 1 ((4 * (r1 / 3)) + (r1 - r1 / 3 * 3)).toNatClampNeg))) fun σ17 =>
            gs_gd ((4 * (r1 / 3)) + (r1 - r1 / 3 * 3)) 84 <|
            some ((σ17 1 ((4 * (r1 / 3)) + (r1 - r1 / 3 * 3)).toNatClampNeg).toInt64, σ17)
        else
          some ((-3000000000000), σ14)
    else
      gs_ob (fn_X3_broken T (r1 / 3) σ2) fun r3 σ4 =>
      if r3 = 0 then
        gs_ob (fn_X3_wrong T ((4 * (r1 / 3)) + (r1 - r1 / 3 * 3)) σ4) fun r5 σ6 =>
        if r5 = 0 then
          gs_gd ((4 * (r1 / 3)) + (r1 - r1 / 3 * 3)) 84 <|
          some ((σ6 1 ((4 * (r1 / 3)) + (r1 - r1 / 3 * 3)).toNatClampNeg).toInt64, σ6)
        else
          gs_gd ((4 * (r1 / 3)) + (r1 - r1 / 3 * 3)) 84 <|
          gs_gd ((4 * (r1 / 3)) + (r1 - r1 / 3 * 3)) 84 <|
          gs_lt (gs_st σ6 2 (upd (σ6 2) ((4 * (r1 / 3)) + (r1 - r1 / 3 * 3)).toNatClampNeg (σ6 1 ((4 * (r1 / 3)) + (r1 - r1 / 3 * 3)).toNatClampNeg))) fun σ7 =>
          gs_gd ((4 * (r1 / 3)) + (r1 - r1 / 3 * 3)) 84 <|
          some ((σ7 1 ((4 * (r1 / 3)) + (r1 - r1 / 3 * 3)).toNatClampNeg).toInt64, σ7)
      else
        some ((-3000000000000), σ4)
  else
    some ((-1000000000000), σ2)
def fn_X3_spare (T : Nat) (x1 : Int32) (σ : gS) : Option (Int32 × gS) :=
  some ((x1 / 4) - (x1 / 4) / 7 * 7, σ)
def fn_X3_home (T : Nat) (x1 : Int32) (σ : gS) : Option (Int32 × gS) :=
  if (x1 - x1 / 4 * 4) = 0 then
    some ((((x1 / 4) - (x1 / 4) / 7 * 7) + 2) - (((x1 / 4) - (x1 / 4) / 7 * 7) + 2) / 7 * 7, σ)
  else
    if (x1 - x1 / 4 * 4) = 1 then
      some ((((x1 / 4) - (x1 / 4) / 7 * 7) + 4) - (((x1 / 4) - (x1 / 4) / 7 * 7) + 4) / 7 * 7, σ)
    else
      if (x1 - x1 / 4 * 4) = 2 then
        some ((((x1 / 4) - (x1 / 4) / 7 * 7) + 5) - (((x1 / 4) - (x1 / 4) / 7 * 7) + 5) / 7 * 7, σ)
      else
        some ((((x1 / 4) - (x1 / 4) / 7 * 7) + 6) - (((x1 / 4) - (x1 / 4) / 7 * 7) + 6) / 7 * 7, σ)
def fn_X3_on (T : Nat) (x1 : Int32) (σ : gS) : Option (Int32 × gS) :=
  gs_gd x1 84 <|
  if (σ 3 x1.toNatClampNeg) = 0 then
    gs_gd x1 84 <|
    if (σ 4 x1.toNatClampNeg) = 0 then
      gs_ob (fn_X3_home T x1 σ) fun r1 σ2 =>
      some (r1, σ2)
    else
      gs_ob (fn_X3_spare T x1 σ) fun r3 σ4 =>
      some (r3, σ4)
  else
    some ((-1), σ)
def fn_X3_fail_L31 (T : Nat) : Nat → Int32 → Int32 → Int32 → gS → Option (Int32 × gS)
  | 0, _, _, _, _ => none
  | n + 1, z1, z2, z3, σ =>
    if (4 * (σ 0 0)) ≤ z3 then
      some (z2, σ)
    else
      gs_ob (fn_X3_on T z3 σ) fun r4 σ5 =>
      if r4 = z1 then
        gs_gd z3 84 <|
        gs_lt (gs_st σ5 3 (upd (σ5 3) z3.toNatClampNeg (vp_nar .boolean 1))) fun σ6 =>
        gs_gd z3 84 <|
        gs_lt (gs_st σ6 4 (upd (σ6 4) z3.toNatClampNeg (vp_nar .boolean 0))) fun σ7 =>
        fn_X3_fail_L31 T n z1 (z2 + 1) (z3 + 1) σ7
      else
        fn_X3_fail_L31 T n z1 z2 (z3 + 1) σ5
def fn_X3_fail (T : Nat) (x1 : Int32) (σ : gS) : Option (Int32 × gS) :=
  gs_ob (fn_X3_in T x1 7 σ) fun r1 σ2 =>
  if r1 = 0 then
    some ((-1), σ2)
  else
    gs_gd x1 7 <|
    if (σ2 5 x1.toNatClampNeg) = 0 then
      gs_gd x1 7 <|
      gs_lt (gs_st σ2 5 (upd (σ2 5) x1.toNatClampNeg (vp_nar .boolean 1))) fun σ3 =>
      fn_X3_fail_L31 T gs_fu x1 0 0 σ3
    else
      some ((-1), σ2)
def fn_X3_replace (T : Nat) (x1 : Int32) (σ : gS) : Option (Int32 × gS) :=
  gs_ob (fn_X3_in T x1 7 σ) fun r1 σ2 =>
  if r1 = 0 then
    some ((-1), σ2)
  else
    gs_gd x1 7 <|
    if (σ2 5 x1.toNatClampNeg) = 0 then
      some ((-1), σ2)
    else
      gs_gd x1 7 <|
      gs_lt (gs_st σ2 5 (upd (σ2 5) x1.toNatClampNeg (vp_nar .boolean 0))) fun σ3 =>
      some (0, σ3)
def fn_X3_alter (T : Nat) (x1 : Int32) (x2 : Int32) (x3 : Int32) (σ : gS) : Option (Int32 × gS) :=
  gs_ob (fn_X3_in T x1 (σ 0 0) σ) fun r1 σ2 =>
  if r1 = 0 then
    some ((-1), σ2)
  else
    gs_ob (fn_X3_in T x2 4 σ2) fun r3 σ4 =>
    if r3 = 0 then
      some ((-1), σ4)
    else
      gs_gd ((4 * x1) + x2) 84 <|
      if (σ4 3 ((4 * x1) + x2).toNatClampNeg) = 0 then
        if x3 = 0 then
          some ((-1), σ4)
        else
          gs_gd ((4 * x1) + x2) 84 <|
          gs_gd ((4 * x1) + x2) 84 <|
          gs_lt (gs_st σ4 2 (upd (σ4 2) ((4 * x1) + x2).toNatClampNeg ((σ4 2 ((4 * x1) + x2).toNatClampNeg) ^^^ x3))) fun σ5 =>
          some (0, σ5)
      else
        some ((-1), σ4)
def fn_X3_movedOf_L2 (T : Nat) : Nat → Int32 → Int32 → gS → Option (Int32 × gS)
  | 0, _, _, _ => none
  | n + 1, z1, z2, σ =>
    if 4 ≤ z2 then
      some (4, σ)
    else
      gs_gd ((4 * z1) + z2) 84 <|
      if (σ 4 ((4 * z1) + z2).toNatClampNeg) = 0 then
        fn_X3_movedOf_L2 T n z1 (z2 + 1) σ
      else
        some (z2, σ)
def fn_X3_movedOf (T : Nat) (x1 : Int32) (σ : gS) : Option (Int32 × gS) :=
  fn_X3_movedOf_L2 T gs_fu x1 0 σ
def fn_X3_rebuilt_L14 (T : Nat) : Nat → Int32 → Int32 → gS → Option (Int32 × gS)
  | 0, _, _, _ => none
  | n + 1, z1, z2, σ =>
    if ((4 * z1) + 4) ≤ z2 then
      some (0, σ)
    else
      gs_gd z2 84 <|
      if (σ 3 z2.toNatClampNeg) = 0 then
        gs_gd z2 84 <|
        if (σ 3 z2.toNatClampNeg) = 0 then
          fn_X3_rebuilt_L14 T n z1 (z2 + 1) σ
        else
          gs_ob (fn_X3_spare T z2 σ) fun r3 σ4 =>
          gs_gd r3 7 <|
          if (σ4 5 r3.toNatClampNeg) = 0 then
            gs_ob (fn_X3_movedOf T z1 σ4) fun r5 σ6 =>
            if r5 = 4 then
              gs_gd z2 84 <|
              gs_lt (gs_st σ6 3 (upd (σ6 3) z2.toNatClampNeg (vp_nar .boolean 0))) fun σ7 =>
              gs_gd z2 84 <|
              gs_gd z2 84 <|
              gs_lt (gs_st σ7 2 (upd (σ7 2) z2.toNatClampNeg (σ7 1 z2.toNatClampNeg))) fun σ8 =>
              gs_gd z2 84 <|
              gs_lt (gs_st σ8 4 (upd (σ8 4) z2.toNatClampNeg (vp_nar .boolean 1))) fun σ9 =>
              some (1, σ9)
            else
              fn_X3_rebuilt_L14 T n z1 (z2 + 1) σ6
          else
            fn_X3_rebuilt_L14 T n z1 (z2 + 1) σ4
      else
        gs_ob (fn_X3_home T z2 σ) fun r10 σ11 =>
        gs_gd r10 7 <|
        if (σ11 5 r10.toNatClampNeg) = 0 then
          gs_gd z2 84 <|
          if (σ11 3 z2.toNatClampNeg) = 0 then
            gs_gd z2 84 <|
            gs_lt (gs_st σ11 3 (upd (σ11 3) z2.toNatClampNeg (vp_nar .boolean 0))) fun σ19 =>
            gs_gd z2 84 <|
            gs_gd z2 84 <|
            gs_lt (gs_st σ19 2 (upd (σ19 2) z2.toNatClampNeg (σ19 1 z2.toNatClampNeg))) fun σ20 =>
            gs_gd z2 84 <|
            gs_lt (gs_st σ20 4 (upd (σ20 4) z2.toNatClampNeg (vp_nar .boolean 0))) fun σ21 =>
            some (1, σ21)
          else
            gs_gd z2 84 <|
            gs_lt (gs_st σ11 3 (upd (σ11 3) z2.toNatClampNeg (vp_nar .boolean 0))) fun σ22 =>
            gs_gd z2 84 <|
            gs_gd z2 84 <|
            gs_lt (gs_st σ22 2 (upd (σ22 2) z2.toNatClampNeg (σ22 1 z2.toNatClampNeg))) fun σ23 =>
            gs_gd z2 84 <|
            gs_lt (gs_st σ23 4 (upd (σ23 4) z2.toNatClampNeg (vp_nar .boolean 0))) fun σ24 =>
            some (1, σ24)
        else
          gs_gd z2 84 <|
          if (σ11 3 z2.toNatClampNeg) = 0 then
            fn_X3_rebuilt_L14 T n z1 (z2 + 1) σ11
          else
            gs_ob (fn_X3_spare T z2 σ11) fun r12 σ13 =>
            gs_gd r12 7 <|
            if (σ13 5 r12.toNatClampNeg) = 0 then
              gs_ob (fn_X3_movedOf T z1 σ13) fun r14 σ15 =>
              if r14 = 4 then
                gs_gd z2 84 <|
                gs_lt (gs_st σ15 3 (upd (σ15 3) z2.toNatClampNeg (vp_nar .boolean 0))) fun σ16 =>
                gs_gd z2 84 <|
                gs_gd z2 84 <|
                gs_lt (gs_st σ16 2 (upd (σ16 2) z2.toNatClampNeg (σ16 1 z2.toNatClampNeg))) fun σ17 =>
                gs_gd z2 84 <|
                gs_lt (gs_st σ17 4 (upd (σ17 4) z2.toNatClampNeg (vp_nar .boolean 1))) fun σ18 =>
                some (1, σ18)
              else
                fn_X3_rebuilt_L14 T n z1 (z2 + 1) σ15
            else
              fn_X3_rebuilt_L14 T n z1 (z2 + 1) σ13
def fn_X3_rebuilt (T : Nat) (x1 : Int32) (σ : gS) : Option (Int32 × gS) :=
  gs_ob (fn_X3_broken T x1 σ) fun r1 σ2 =>
  if r1 = 0 then
    fn_X3_rebuilt_L14 T gs_fu x1 (4 * x1) σ2
  else
    some (0, σ2)
def fn_X3_rebuild_L17 (T : Nat) : Nat → Int32 → Int32 → Int32 → gS → Option (Int32 × gS)
  | 0, _, _, _, _ => none
  | n + 1, z1, z2, z3, σ =>
    if (σ 0 0) ≤ z3 then
      some (z2, σ)
    else
      if z1 ≤ z2 then
        some (z2, σ)
      else
        gs_ob (fn_X3_rebuilt T z3 σ) fun r1 σ2 =>
        if r1 = 0 then
          fn_X3_rebuild_L17 T n z1 z2 (z3 + 1) σ2
        else
          fn_X3_rebuild_L17 T n z1 (z2 + 1) (z3 + 1) σ2
def fn_X3_rebuild (T : Nat) (x1 : Int32) (σ : gS) : Option (Int32 × gS) :=
  if x1 < 1 then
    some ((-1), σ)
  else
    if x1 ≤ 21 then
      fn_X3_rebuild_L17 T gs_fu x1 0 0 σ
    else
      some ((-1), σ)
def fn_X3_moveBack_L17 (T : Nat) : Nat → Int32 → Int32 → Int32 → gS → Option (Int32 × gS)
  | 0, _, _, _, _ => none
  | n + 1, z1, z2, z3, σ =>
    if (4 * (σ 0 0)) ≤ z3 then
      some (z2, σ)
    else
      if z1 ≤ z2 then
        some (z2, σ)
      else
        gs_gd z3 84 <|
        if (σ 4 z3.toNatClampNeg) = 0 then
          fn_X3_moveBack_L17 T n z1 z2 (z3 + 1) σ
        else
          gs_ob (fn_X3_home T z3 σ) fun r1 σ2 =>
          gs_gd r1 7 <|
          if (σ2 5 r1.toNatClampNeg) = 0 then
            gs_gd z3 84 <|
            gs_lt (gs_st σ2 4 (upd (σ2 4) z3.toNatClampNeg (vp_nar .boolean 0))) fun σ3 =>
            fn_X3_moveBack_L17 T n z1 (z2 + 1) (z3 + 1) σ3
          else
            fn_X3_moveBack_L17 T n z1 z2 (z3 + 1) σ2
def fn_X3_moveBack (T : Nat) (x1 : Int32) (σ : gS) : Option (Int32 × gS) :=
  if x1 < 1 then
    some ((-1), σ)
  else
    if x1 ≤ 21 then
      fn_X3_moveBack_L17 T gs_fu x1 0 0 σ
    else
      some ((-1), σ)
def fn_X3_scrub_L17 (T : Nat) : Nat → Int32 → Int32 → Int32 → gS → Option (Int32 × gS)
  | 0, _, _, _, _ => none
  | n + 1, z1, z2, z3, σ =>
    if z1 ≤ z3 then
      some (z2, σ)
    else
      gs_ob (fn_X3_mend T (σ 10 0) σ) fun r1 σ2 =>
      gs_dv (σ2 0 0) <|
      gs_lt (gs_st σ2 10 (fun _ => ((σ2 10 0) + 1) - ((σ2 10 0) + 1) / (σ2 0 0) * (σ2 0 0))) fun σ3 =>
      fn_X3_scrub_L17 T n z1 (z2 + r1) (z3 + 1) σ3
def fn_X3_scrub (T : Nat) (x1 : Int32) (σ : gS) : Option (Int32 × gS) :=
  if x1 < 1 then
    some ((-1), σ)
  else
    if x1 ≤ 21 then
      fn_X3_scrub_L17 T gs_fu x1 0 0 σ
    else
      some ((-1), σ)
def fn_X3_length_L4 (T : Nat) : Nat → Int32 → Int32 → Int32 → gS → Option (Int32 × gS)
  | 0, _, _, _, _ => none
  | n + 1, z1, z2, z3, σ =>
    gs_gd z1 8 <|
    if (σ 9 z1.toNatClampNeg) ≤ z3 then
      some (z2, σ)
    else
      gs_gd ((3 * z1) + z3) 24 <|
      fn_X3_length_L4 T n z1 (z2 + (σ 8 ((3 * z1) + z3).toNatClampNeg)) (z3 + 1) σ
def fn_X3_length (T : Nat) (x1 : Int32) (σ : gS) : Option (Int32 × gS) :=
  fn_X3_length_L4 T gs_fu x1 0 0 σ
def fn_X3_file (T : Nat) (x1 : Int32) (x2 : Int32) (σ : gS) : Option (Int32 × gS) :=
  gs_ob (fn_X3_in T x1 8 σ) fun r1 σ2 =>
  if r1 = 0 then
    some ((-1), σ2)
  else
    gs_ob (fn_X3_in T x2 8 σ2) fun r3 σ4 =>
    if r3 = 0 then
      some ((-1), σ4)
    else
      if x2 = 0 then
        gs_ob (fn_X3_length T x1 σ4) fun r5 σ6 =>
        some (r5, σ6)
      else
        if x2 = 1 then
          gs_gd x1 8 <|
          some (σ4 9 x1.toNatClampNeg, σ4)
        else
          gs_gd x1 8 <|
          if ((x2 / 2) - 1) < (σ4 9 x1.toNatClampNeg) then
            if (x2 - x2 / 2 * 2) = 0 then
              gs_gd ((3 * x1) + ((x2 / 2) - 1)) 24 <|
              some (σ4 7 ((3 * x1) + ((x2 / 2) - 1)).toNatClampNeg, σ4)
            else
              gs_gd ((3 * x1) + ((x2 / 2) - 1)) 24 <|
              some (σ4 8 ((3 * x1) + ((x2 / 2) - 1)).toNatClampNeg, σ4)
          else
            some ((-1), σ4)
def fn_X3_stripe (T : Nat) (x1 : Int32) (x2 : Int32) (σ : gS) : Option (Int32 × gS) :=
  gs_ob (fn_X3_in T x1 (σ 0 0) σ) fun r1 σ2 =>
  if r1 = 0 then
    some ((-1), σ2)
  else
    gs_ob (fn_X3_in T x2 6 σ2) fun r3 σ4 =>
    if r3 = 0 then
      some ((-1), σ4)
    else
      if x2 = 4 then
        gs_ob (fn_X3_movedOf T x1 σ4) fun r9 σ10 =>
        some (r9, σ10)
      else
        if x2 = 5 then
          gs_ob (fn_X3_broken T x1 σ4) fun r7 σ8 =>
          if r7 = 0 then
            some (0, σ8)
          else
            some (1, σ8)
        else
          gs_gd ((4 * x1) + x2) 84 <|
          if (σ4 3 ((4 * x1) + x2).toNatClampNeg) = 0 then
            gs_ob (fn_X3_wrong T ((4 * x1) + x2) σ4) fun r5 σ6 =>
            if r5 = 0 then
              some (0, σ6)
            else
              some (1, σ6)
          else
            some (2, σ4)
def fn_X3_disk_L43 (T : Nat) : Nat → Int32 → Int32 → Int32 → Int32 → gS → Option (Int32 × gS)
  | 0, _, _, _, _, _ => none
  | n + 1, z1, z2, z3, z4, σ =>
    if (4 * (σ 0 0)) ≤ z4 then
      some (z3, σ)
    else
      gs_ob (fn_X3_on T z4 σ) fun r5 σ6 =>
      if r5 = z1 then
        if z2 = 1 then
          fn_X3_disk_L43 T n z1 z2 (z3 + 1) (z4 + 1) σ6
        else
          gs_gd z4 84 <|
          if (σ6 4 z4.toNatClampNeg) = 0 then
            fn_X3_disk_L43 T n z1 z2 z3 (z4 + 1) σ6
          else
            fn_X3_disk_L43 T n z1 z2 (z3 + 1) (z4 + 1) σ6
      else
        fn_X3_disk_L43 T n z1 z2 z3 (z4 + 1) σ6
def fn_X3_disk (T : Nat) (x1 : Int32) (x2 : Int32) (σ : gS) : Option (Int32 × gS) :=
  gs_ob (fn_X3_in T x1 7 σ) fun r1 σ2 =>
  if r1 = 0 then
    some ((-1), σ2)
  else
    gs_ob (fn_X3_in T x2 3 σ2) fun r3 σ4 =>
    if r3 = 0 then
      some ((-1), σ4)
    else
      if x2 = 0 then
        gs_gd x1 7 <|
        if (σ4 5 x1.toNatClampNeg) = 0 then
          some (1, σ4)
        else
          some (0, σ4)
      else
        fn_X3_disk_L43 T gs_fu x1 x2 0 0 σ4
def fn_X3_free_L4 (T : Nat) : Nat → Int32 → Int32 → gS → Option (Int32 × gS)
  | 0, _, _, _ => none
  | n + 1, z1, z2, σ =>
    if (3 * (σ 0 0)) ≤ z2 then
      some (z1, σ)
    else
      gs_gd z2 63 <|
      if (σ 6 z2.toNatClampNeg) = 0 then
        fn_X3_free_L4 T n (z1 + 1) (z2 + 1) σ
      else
        fn_X3_free_L4 T n z1 (z2 + 1) σ
def fn_X3_free (T : Nat) (σ : gS) : Option (Int32 × gS) :=
  fn_X3_free_L4 T gs_fu 0 0 σ
def fn_X3_columns_L4 (T : Nat) : Nat → Int32 → Int32 → Int32 → gS → Option (Int32 × gS)
  | 0, _, _, _, _ => none
  | n + 1, z1, z2, z3, σ =>
    if (4 * (σ 0 0)) ≤ z3 then
      some (z2, σ)
    else
      if z1 = 0 then
        gs_ob (fn_X3_wrong T z3 σ) fun r1 σ2 =>
        if r1 = 0 then
          fn_X3_columns_L4 T n z1 z2 (z3 + 1) σ2
        else
          fn_X3_columns_L4 T n z1 (z2 + 1) (z3 + 1) σ2
      else
        gs_gd z3 84 <|
        if (σ 3 z3.toNatClampNeg) = 0 then
          fn_X3_columns_L4 T n z1 z2 (z3 + 1) σ
        else
          fn_X3_columns_L4 T n z1 (z2 + 1) (z3 + 1) σ
def fn_X3_columns (T : Nat) (x1 : Int32) (σ : gS) : Option (Int32 × gS) :=
  fn_X3_columns_L4 T gs_fu x1 0 0 σ
def fn_X3_count_L104 (T : Nat) : Nat → Int32 → Int32 → Int32 → gS → Option (Int32 × gS)
  | 0, _, _, _, _ => none
  | n + 1, z1, z2, z3, σ =>
    if (3 * (σ 0 0)) ≤ z3 then
      some (z2, σ)
    else
      if z1 = 6 then
        gs_ob (fn_X3_run T z3 σ) fun r1 σ2 =>
        if r1 ≤ 0 then
          fn_X3_count_L104 T n z1 z2 (z3 + 1) σ2
        else
          fn_X3_count_L104 T n z1 (z2 + 1) (z3 + 1) σ2
      else
        fn_X3_count_L104 T n z1 z2 (z3 + 1) σ
def fn_X3_count_L72 (T : Nat) : Nat → Int32 → Int32 → Int32 → gS → Option (Int32 × gS)
  | 0, _, _, _, _ => none
  | n + 1, z1, z2, z3, σ =>
    if (σ 0 0) ≤ z3 then
      fn_X3_count_L104 T gs_fu z1 z2 0 σ
    else
      if z1 = 4 then
        gs_ob (fn_X3_broken T z3 σ) fun r3 σ4 =>
        if r3 = 0 then
          fn_X3_count_L72 T n z1 z2 (z3 + 1) σ4
        else
          fn_X3_count_L72 T n z1 (z2 + 1) (z3 + 1) σ4
      else
        fn_X3_count_L72 T n z1 z2 (z3 + 1) σ
def fn_X3_count (T : Nat) (x1 : Int32) (σ : gS) : Option (Int32 × gS) :=
  if x1 = 0 then
    gs_ob (fn_X3_free T σ) fun r13 σ14 =>
    some (r13, σ14)
  else
    if x1 = 1 then
      gs_ob (fn_X3_longest T σ) fun r9 σ10 =>
      gs_ob (fn_X3_run T r9 σ10) fun r11 σ12 =>
      some (r11, σ12)
    else
      if x1 = 2 then
        gs_ob (fn_X3_columns T 1 σ) fun r7 σ8 =>
        some (r7, σ8)
      else
        if x1 = 3 then
          gs_ob (fn_X3_columns T 0 σ) fun r5 σ6 =>
          some (r5, σ6)
        else
          if x1 = 5 then
            some (σ 10 0, σ)
          else
            if x1 = 4 then
              fn_X3_count_L72 T gs_fu x1 0 0 σ
            else
              if x1 = 6 then
                fn_X3_count_L72 T gs_fu x1 0 0 σ
              else
                some ((-1), σ)
