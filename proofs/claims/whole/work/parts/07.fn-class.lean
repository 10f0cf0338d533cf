def fn_X2_isFile (T : Nat) (x0 : Int32) (σ : gS) : Option (Int32 × gS) :=
  if x0 < 0 then
    some (0, σ)
  else
    if 8 ≤ x0 then
      some (0, σ)
    else
      some (1, σ)
def fn_X0_isThere (T : Nat) (x1 : Int32) (σ : gS) : Option (Int32 × gS) :=
  gs_gd x1 8 <|
  if (σ 8 x1.toNatClampNeg) ≤ 0 then
    some (0, σ)
  else
    some (1, σ)
def fn_X0_startsRun (T : Nat) (x1 : Int32) (σ : gS) : Option (Int32 × gS) :=
  gs_gd x1 (3 * T) <|
  if (σ 7 x1.toNatClampNeg) = 0 then
    if x1 = 0 then
      some (1, σ)
    else
      gs_gd (x1 - 1) (3 * T) <|
      if (σ 7 (x1 - 1).toNatClampNeg) = 0 then
        some (0, σ)
      else
        some (1, σ)
  else
    some (0, σ)
def fn_X0_runFrom_L2 (T : Nat) : Nat → Int32 → Int32 → gS → Option (Int32 × gS)
  | 0, _, _, _ => none
  | n + 1, z1, z2, σ =>
    if (nI (3 * T)) ≤ z2 then
      some (z2 - z1, σ)
    else
      gs_gd z2 (3 * T) <|
      if (σ 7 z2.toNatClampNeg) = 0 then
        fn_X0_runFrom_L2 T n z1 (z2 + 1) σ
      else
        some (z2 - z1, σ)
def fn_X0_runFrom (T : Nat) (x1 : Int32) (σ : gS) : Option (Int32 × gS) :=
  fn_X0_runFrom_L2 T gs_fu x1 x1 σ
def fn_X0_firstRunOf_L2 (T : Nat) : Nat → Int32 → Int32 → gS → Option (Int32 × gS)
  | 0, _, _, _ => none
  | n + 1, z1, z2, σ =>
    if (nI (3 * T)) ≤ z2 then
      some ((-1), σ)
    else
      gs_ob (fn_X0_startsRun T z2 σ) fun r1 σ2 =>
      if r1 = 0 then
        fn_X0_firstRunOf_L2 T n z1 (z2 + 1) σ2
      else
        gs_ob (fn_X0_runFrom T z2 σ2) fun r3 σ4 =>
        if r3 < z1 then
          fn_X0_firstRunOf_L2 T n z1 (z2 + 1) σ4
        else
          some (z2, σ4)
def fn_X0_firstRunOf (T : Nat) (x1 : Int32) (σ : gS) : Option (Int32 × gS) :=
  fn_X0_firstRunOf_L2 T gs_fu x1 0 σ
def fn_X0_mark_L3 (T : Nat) : Nat → Int32 → Int32 → Int32 → Int32 → gS → Option (Int32 × gS)
  | 0, _, _, _, _, _ => none
  | n + 1, z1, z2, z3, z4, σ =>
    if (z1 + z2) ≤ z4 then
      some (0, σ)
    else
      gs_gd z4 (3 * T) <|
      gs_lt (gs_st σ 7 (upd (σ 7) z4.toNatClampNeg (vp_nar .boolean z3))) fun σ1 =>
      fn_X0_mark_L3 T n z1 z2 z3 (z4 + 1) σ1
def fn_X0_mark (T : Nat) (x1 : Int32) (x2 : Int32) (x3 : Int32) (σ : gS) : Option (Int32 × gS) :=
  fn_X0_mark_L3 T gs_fu x1 x2 x3 x1 σ
def fn_X0_addExtent (T : Nat) (x1 : Int32) (x2 : Int32) (x3 : Int32) (σ : gS) : Option (Int32 × gS) :=
  gs_gd x1 8 <|
  gs_gd ((x1 * 3) + (σ 9 x1.toNatClampNeg)) 24 <|
  gs_lt (gs_st σ 10 (upd (σ 10) ((x1 * 3) + (σ 9 x1.toNatClampNeg)).toNatClampNeg x2)) fun σ1 =>
  gs_gd ((x1 * 3) + (σ 9 x1.toNatClampNeg)) 24 <|
  gs_lt (gs_st σ1 11 (upd (σ1 11) ((x1 * 3) + (σ 9 x1.toNatClampNeg)).toNatClampNeg x3)) fun σ2 =>
  gs_gd x1 8 <|
  gs_gd x1 8 <|
  gs_lt (gs_st σ2 9 (upd (σ2 9) x1.toNatClampNeg ((σ2 9 x1.toNatClampNeg) + 1))) fun σ3 =>
  gs_gd x1 8 <|
  gs_gd x1 8 <|
  gs_lt (gs_st σ3 8 (upd (σ3 8) x1.toNatClampNeg ((σ3 8 x1.toNatClampNeg) + x3))) fun σ4 =>
  gs_ob (fn_X0_mark T x2 x3 1 σ4) fun _ σ6 =>
  some (0, σ6)
def fn_X0_longestRun_L6 (T : Nat) : Nat → Int32 → Int32 → Int32 → gS → Option (Int32 × gS)
  | 0, _, _, _, _ => none
  | n + 1, z1, z2, z3, σ =>
    if (nI (3 * T)) ≤ z3 then
      some (z1, σ)
    else
      gs_ob (fn_X0_startsRun T z3 σ) fun r1 σ2 =>
      if r1 = 0 then
        fn_X0_longestRun_L6 T n z1 z2 (z3 + 1) σ2
      else
        gs_ob (fn_X0_runFrom T z3 σ2) fun r3 σ4 =>
        if r3 ≤ z2 then
          fn_X0_longestRun_L6 T n z1 z2 (z3 + 1) σ4
        else
          gs_ob (fn_X0_runFrom T z3 σ4) fun r5 σ6 =>
          fn_X0_longestRun_L6 T n z3 r5 (z3 + 1) σ6
def fn_X0_longestRun (T : Nat) (σ : gS) : Option (Int32 × gS) :=
  fn_X0_longestRun_L6 T gs_fu (-1) 0 0 σ
def fn_X0_addLongestRun (T : Nat) (x1 : Int32) (x2 : Int32) (σ : gS) : Option (Int32 × gS) :=
  gs_ob (fn_X0_longestRun T σ) fun r1 σ2 =>
  if r1 = (-1) then
    some (0, σ2)
  else
    gs_ob (fn_X0_runFrom T r1 σ2) fun r3 σ4 =>
    gs_ob (fn_X0_addExtent T x1 r1 (if x2 < r3 then x2 else r3) σ4) fun _ σ6 =>
    some (0, σ6)
def fn_X0_extentStart (T : Nat) (x1 : Int32) (x2 : Int32) (σ : gS) : Option (Int32 × gS) :=
  gs_gd ((x1 * 3) + x2) 24 <|
  some (σ 10 ((x1 * 3) + x2).toNatClampNeg, σ)
def fn_X0_extentSize (T : Nat) (x1 : Int32) (x2 : Int32) (σ : gS) : Option (Int32 × gS) :=
  gs_gd ((x1 * 3) + x2) 24 <|
  some (σ 11 ((x1 * 3) + x2).toNatClampNeg, σ)
def fn_X0_release_L2 (T : Nat) : Nat → Int32 → Int32 → gS → Option (Int32 × gS)
  | 0, _, _, _ => none
  | n + 1, z1, z2, σ =>
    gs_gd z1 8 <|
    if (σ 9 z1.toNatClampNeg) ≤ z2 then
      gs_gd z1 8 <|
      gs_lt (gs_st σ 9 (upd (σ 9) z1.toNatClampNeg 0)) fun σ1 =>
      gs_gd z1 8 <|
      gs_lt (gs_st σ1 8 (upd (σ1 8) z1.toNatClampNeg 0)) fun σ2 =>
      some (0, σ2)
    else
      gs_ob (fn_X0_extentStart T z1 z2 σ) fun r3 σ4 =>
      gs_ob (fn_X0_extentSize T z1 z2 σ4) fun r5 σ6 =>
      gs_ob (fn_X0_mark T r3 r5 0 σ6) fun _ σ8 =>
      fn_X0_release_L2 T n z1 (z2 + 1) σ8
def fn_X0_release (T : Nat) (x1 : Int32) (σ : gS) : Option (Int32 × gS) :=
  fn_X0_release_L2 T gs_fu x1 0 σ
def fn_X0_make_L23 (T : Nat) : Nat → Int32 → Int32 → Int32 → gS → Option (Int32 × gS)
  | 0, _, _, _, _ => none
  | n + 1, z1, z2, z4, σ =>
    if 3 ≤ z4 then
      gs_gd z1 8 <|
      if z2 ≤ (σ 8 z1.toNatClampNeg) then
        some (1, σ)
      else
        gs_ob (fn_X0_release T z1 σ) fun _ σ4 =>
        some (0, σ4)
    else
      gs_gd z1 8 <|
      if z2 ≤ (σ 8 z1.toNatClampNeg) then
        gs_gd z1 8 <|
        if z2 ≤ (σ 8 z1.toNatClampNeg) then
          some (1, σ)
        else
          gs_ob (fn_X0_release T z1 σ) fun _ σ6 =>
          some (0, σ6)
      else
        gs_gd z1 8 <|
        gs_ob (fn_X0_addLongestRun T z1 (z2 - (σ 8 z1.toNatClampNeg)) σ) fun _ σ8 =>
        fn_X0_make_L23 T n z1 z2 (z4 + 1) σ8
def fn_X0_make (T : Nat) (x1 : Int32) (x2 : Int32) (σ : gS) : Option (Int32 × gS) :=
  gs_ob (fn_X0_firstRunOf T x2 σ) fun r1 σ2 =>
  if r1 = (-1) then
    fn_X0_make_L23 T gs_fu x1 x2 0 σ2
  else
    gs_ob (fn_X0_addExtent T x1 r1 x2 σ2) fun _ σ10 =>
    some (1, σ10)
def fn_X0_extentsOf (T : Nat) (x1 : Int32) (σ : gS) : Option (Int32 × gS) :=
  gs_gd x1 8 <|
  some (σ 9 x1.toNatClampNeg, σ)
def fn_X2_create (T : Nat) (x1 : Int32) (x2 : Int32) (σ : gS) : Option (Int32 × gS) :=
  gs_ob (fn_X2_isFile T x1 σ) fun r1 σ2 =>
  if r1 = 0 then
    some ((-1), σ2)
  else
    if x2 < 1 then
      some ((-1), σ2)
    else
      if 63 < x2 then
        some ((-1), σ2)
      else
        gs_ob (fn_X0_isThere T x1 σ2) fun r3 σ4 =>
        if r3 = 0 then
          gs_ob (fn_X0_make T x1 x2 σ4) fun r5 σ6 =>
          if r5 = 0 then
            some ((-2), σ6)
          else
            gs_ob (fn_X0_extentsOf T x1 σ6) fun r7 σ8 =>
            some (r7, σ8)
        else
          some ((-1), σ4)
def fn_X2_remove (T : Nat) (x1 : Int32) (σ : gS) : Option (Int32 × gS) :=
  gs_ob (fn_X2_isFile T x1 σ) fun r1 σ2 =>
  if r1 = 0 then
    some ((-1), σ2)
  else
    gs_ob (fn_X0_isThere T x1 σ2) fun r3 σ4 =>
    if r3 = 0 then
      some ((-1), σ4)
    else
      gs_ob (fn_X0_release T x1 σ4) fun _ σ6 =>
      some (0, σ6)
def fn_X0_lengthOf (T : Nat) (x1 : Int32) (σ : gS) : Option (Int32 × gS) :=
  gs_gd x1 8 <|
  some (σ 8 x1.toNatClampNeg, σ)
def fn_X0_blockOf_L5 (T : Nat) : Nat → Int32 → Int32 → Int32 → Int32 → gS → Option (Int32 × gS)
  | 0, _, _, _, _, _ => none
  | n + 1, z1, z2, z3, z4, σ =>
    gs_gd z1 8 <|
    if (σ 9 z1.toNatClampNeg) ≤ z4 then
      some ((-1), σ)
    else
      gs_ob (fn_X0_extentSize T z1 z4 σ) fun r1 σ2 =>
      if r1 ≤ (z2 - z3) then
        gs_ob (fn_X0_extentSize T z1 z4 σ2) fun r3 σ4 =>
        fn_X0_blockOf_L5 T n z1 z2 (z3 + r3) (z4 + 1) σ4
      else
        gs_ob (fn_X0_extentStart T z1 z4 σ2) fun r5 σ6 =>
        some (r5 + (z2 - z3), σ6)
def fn_X0_blockOf (T : Nat) (x1 : Int32) (x2 : Int32) (σ : gS) : Option (Int32 × gS) :=
  fn_X0_blockOf_L5 T gs_fu x1 x2 0 0 σ
def fn_X2_blockAt (T : Nat) (x1 : Int32) (x2 : Int32) (σ : gS) : Option (Int32 × gS) :=
  gs_ob (fn_X2_isFile T x1 σ) fun r1 σ2 =>
  if r1 = 0 then
    some ((-1), σ2)
  else
    if x2 < 0 then
      some ((-1), σ2)
    else
      gs_ob (fn_X0_lengthOf T x1 σ2) fun r3 σ4 =>
      if x2 < r3 then
        gs_ob (fn_X0_blockOf T x1 x2 σ4) fun r5 σ6 =>
        some (r5, σ6)
      else
        some ((-1), σ4)
def fn_X1_place (T : Nat) (x0 : Int32) (x1 : Int32) (σ : gS) : Option (Int32 × gS) :=
  some ((x0 * 4) + x1, σ)
def fn_X1_isLost (T : Nat) (x1 : Int32) (x2 : Int32) (σ : gS) : Option (Int32 × gS) :=
  gs_ob (fn_X1_place T x1 x2 σ) fun r1 σ2 =>
  gs_gd r1 (4 * T) <|
  gs_bz (σ2 3 r1.toNatClampNeg) <|
  some (σ2 3 r1.toNatClampNeg, σ2)
def fn_X1_isWrong (T : Nat) (x1 : Int32) (x2 : Int32) (σ : gS) : Option (Int32 × gS) :=
  gs_ob (fn_X1_place T x1 x2 σ) fun r1 σ2 =>
  gs_gd r1 (4 * T) <|
  if (σ2 3 r1.toNatClampNeg) = 0 then
    gs_gd r1 (4 * T) <|
    gs_gd r1 (4 * T) <|
    if (σ2 2 r1.toNatClampNeg) = (σ2 1 r1.toNatClampNeg) then
      some (0, σ2)
    else
      some (1, σ2)
  else
    some (0, σ2)
def fn_X1_isBad (T : Nat) (x1 : Int32) (x2 : Int32) (σ : gS) : Option (Int32 × gS) :=
  gs_ob (fn_X1_isLost T x1 x2 σ) fun r1 σ2 =>
  if r1 = 0 then
    gs_ob (fn_X1_isWrong T x1 x2 σ2) fun r3 σ4 =>
    if r3 = 0 then
      some (0, σ4)
    else
      some (1, σ4)
  else
    some (1, σ2)
def fn_X1_isBroken_L4 (T : Nat) : Nat → Int32 → Int32 → Int32 → gS → Option (Int32 × gS)
  | 0, _, _, _, _ => none
  | n + 1, z1, z2, z3, σ =>
    if 4 ≤ z3 then
      if z2 < 2 then
        some (0, σ)
      else
        some (1, σ)
    else
      gs_ob (fn_X1_isBad T z1 z3 σ) fun r1 σ2 =>
      if r1 = 0 then
        fn_X1_isBroken_L4 T n z1 z2 (z3 + 1) σ2
      else
        fn_X1_isBroken_L4 T n z1 (z2 + 1) (z3 + 1) σ2
def fn_X1_isBroken (T : Nat) (x1 : Int32) (σ : gS) : Option (Int32 × gS) :=
  fn_X1_isBroken_L4 T gs_fu x1 0 0 σ
def fn_X1_mend (T : Nat) (x1 : Int32) (x2 : Int32) (σ : gS) : Option (Int32 × gS) :=
  gs_ob (fn_X1_isWrong T x1 x2 σ) fun r1 σ2 =>
  if r1 = 0 then
    some (0, σ2)
  else
    gs_ob (fn_X1_place T x1 x2 σ2) fun r3 σ4 =>
    gs_gd r3 (4 * T) <|
    gs_gd r3 (4 * T) <|
    gs_lt (gs_st σ4 2 (upd (σ4 2) r3.toNatClampNeg (σ4 1 r3.toNatClampNeg))) fun σ5 =>
    some (1, σ5)
def fn_X1_mendAll_L4 (T : Nat) : Nat → Int32 → Int32 → Int32 → gS → Option (Int32 × gS)
  | 0, _, _, _, _ => none
  | n + 1, z1, z2, z3, σ =>
    if 4 ≤ z3 then
      some (z2, σ)
    else
      gs_ob (fn_X1_mend T z1 z3 σ) fun r1 σ2 =>
      if r1 = 0 then
        fn_X1_mendAll_L4 T n z1 z2 (z3 + 1) σ2
      else
        fn_X1_mendAll_L4 T n z1 (z2 + 1) (z3 + 1) σ2
def fn_X1_mendAll (T : Nat) (x1 : Int32) (σ : gS) : Option (Int32 × gS) :=
  fn_X1_mendAll_L4 T gs_fu x1 0 0 σ
def fn_X2_keepsOldValue (T : Nat) (x0 : Int32) (x1 : Int32) (σ : gS) : Option (Int32 × gS) :=
  if x0 = 0 then
    some (1, σ)
  else
    if x0 = 1 then
      some (1, σ)
    else
      if x0 = 2 then
        if x1 = 0 then
          some (0, σ)
        else
          some (1, σ)
      else
        some (0, σ)
def fn_X1_dueWord (T : Nat) (x1 : Int32) (x2 : Int32) (σ : gS) : Option (Int32 × gS) :=
  gs_ob (fn_X1_place T x1 x2 σ) fun r1 σ2 =>
  gs_gd r1 (4 * T) <|
  some (σ2 1 r1.toNatClampNeg, σ2)
def fn_X1_changeWord (T : Nat) (x1 : Int32) (x2 : Int32) (x3 : Int32) (σ : gS) : Option (Int32 × gS) :=
  gs_ob (fn_X1_place T x1 x2 σ) fun r1 σ2 =>
  gs_gd r1 (4 * T) <|
  gs_gd r1 (4 * T) <|
  gs_lt (gs_st σ2 1 (upd (σ2 1) r1.toNatClampNeg ((σ2 1 r1.toNatClampNeg) ^^^ x3))) fun σ3 =>
  gs_gd r1 (4 * T) <|
  if (σ3 3 r1.toNatClampNeg) = 0 then
    gs_gd r1 (4 * T) <|
    gs_gd r1 (4 * T) <|
    gs_lt (gs_st σ3 2 (upd (σ3 2) r1.toNatClampNeg (σ3 1 r1.toNatClampNeg))) fun σ4 =>
    some (0, σ4)
  else
    some (0, σ3)
def fn_X1_setBlock (T : Nat) (x1 : Int32) (x2 : Int32) (x3 : Int32) (σ : gS) : Option (Int32 × gS) :=
  gs_ob (fn_X1_dueWord T x1 x2 σ) fun r1 σ2 =>
  gs_ob (fn_X1_changeWord T x1 x2 (r1 ^^^ x3) σ2) fun _ σ4 =>
  gs_ob (fn_X1_changeWord T x1 3 (r1 ^^^ x3) σ4) fun _ σ6 =>
  some (0, σ6)
def fn_X2_isCrash (T : Nat) (x0 : Int32) (σ : gS) : Option (Int32 × gS) :=
  if x0 < 0 then
    some (0, σ)
  else
    if 3 < x0 then
      some (0, σ)
    else
      some (1, σ)
def fn_X2_write (T : Nat) (x1 : Int32) (x2 : Int32) (x3 : Int32) (x4 : Int32) (σ : gS) : Option (Int32 × gS) :=
  gs_ob (fn_X2_blockAt T x1 x2 σ) fun r1 σ2 =>
  if r1 = (-1) then
    some ((-1), σ2)
  else
    gs_ob (fn_X1_isBroken T (r1 / 3) σ2) fun r3 σ4 =>
    if r3 = 0 then
      gs_ob (fn_X1_mendAll T (r1 / 3) σ4) fun r5 σ6 =>
      gs_ob (fn_X1_isLost T (r1 / 3) (r1 - r1 / 3 * 3) σ6) fun r7 σ8 =>
      gs_ob (fn_X2_keepsOldValue T x4 r7 σ8) fun r9 σ10 =>
      if r9 = 0 then
        gs_ob (fn_X1_setBlock T (r1 / 3) (r1 - r1 / 3 * 3) x3 σ10) fun _ σ14 =>
        gs_ob (fn_X2_isCrash T x4 σ14) fun r15 σ16 =>
        if r15 = 0 then
          some (0, σ16)
        else
          some ((-4), σ16)
      else
        gs_ob (fn_X2_isCrash T x4 σ10) fun r11 σ12 =>
        if r11 = 0 then
          some (0, σ12)
        else
          some ((-4), σ12)
    else
      some ((-3), σ4)
def fn_X2_read (T : Nat) (x1 : Int32) (x2 : Int32) (σ : gS) : Option (Int64 × gS) :=
  gs_ob (fn_X2_blockAt T x1 x2 σ) fun r1 σ2 =>
  if r1 = (-1) then
    some ((-1000000000000), σ2)
  else
    gs_ob (fn_X1_isBad T (r1 / 3) (r1 - r1 / 3 * 3) σ2) fun r3 σ4 =>
    if r3 = 0 then
      gs_ob (fn_X1_mend T (r1 / 3) (r1 - r1 / 3 * 3) σ4) fun r5 σ6 =>
      gs_ob (fn_X1_dueWord T (r1 / 3) (r1 - r1 / 3 * 3) σ6) fun r7 σ8 =>
      some (r7.toInt64, σ8)
    else
      gs_ob (fn_X1_isBroken T (r1 / 3) σ4) fun r9 σ10 =>
      if r9 = 0 then
        gs_ob (fn_X1_mend T (r1 / 3) (r1 - r1 / 3 * 3) σ10) fun r11 σ12 =>
        gs_ob (fn_X1_dueWord T (r1 / 3) (r1 - r1 / 3 * 3) σ12) fun r13 σ14 =>
        some (r13.toInt64, σ14)
      else
        some ((-3000000000000), σ10)
def fn_X2_isDisk (T : Nat) (x0 : Int32) (σ : gS) : Option (Int32 × gS) :=
  if x0 < 0 then
    some (0, σ)
  else
    if 7 ≤ x0 then
      some (0, σ)
    else
      some (1, σ)
def fn_X1_isPresent (T : Nat) (x1 : Int32) (σ : gS) : Option (Int32 × gS) :=
  gs_gd x1 7 <|
  gs_bz (σ 0 x1.toNatClampNeg) <|
  some (σ 0 x1.toNatClampNeg, σ)
def fn_X1_spare (T : Nat) (x0 : Int32) (σ : gS) : Option (Int32 × gS) :=
  some (x0 - x0 / 7 * 7, σ)
def fn_X1_home (T : Nat) (x0 : Int32) (x1 : Int32) (σ : gS) : Option (Int32 × gS) :=
  gs_gd x1 4 <|
  some (((x0 - x0 / 7 * 7) + (tabH x1.toNatClampNeg)) - ((x0 - x0 / 7 * 7) + (tabH x1.toNatClampNeg)) / 7 * 7, σ)
def fn_X1_isOn (T : Nat) (x1 : Int32) (x2 : Int32) (x3 : Int32) (σ : gS) : Option (Int32 × gS) :=
  gs_ob (fn_X1_isLost T x1 x2 σ) fun r1 σ2 =>
  if r1 = 0 then
    gs_gd x1 T <|
    if (σ2 4 x1.toNatClampNeg) = x2 then
      gs_ob (fn_X1_spare T x1 σ2) fun r5 σ6 =>
      if x3 = r5 then
        some (1, σ6)
      else
        some (0, σ6)
    else
      gs_ob (fn_X1_home T x1 x2 σ2) fun r3 σ4 =>
      if x3 = r3 then
        some (1, σ4)
      else
        some (0, σ4)
  else
    some (0, σ2)
def fn_X1_lose (T : Nat) (x1 : Int32) (x2 : Int32) (σ : gS) : Option (Int32 × gS) :=
  gs_ob (fn_X1_place T x1 x2 σ) fun r1 σ2 =>
  gs_gd r1 (4 * T) <|
  gs_lt (gs_st σ2 3 (upd (σ2 3) r1.toNatClampNeg (vp_nar .boolean 1))) fun σ3 =>
  gs_gd x1 T <|
  if (σ3 4 x1.toNatClampNeg) = x2 then
    gs_gd x1 T <|
    gs_lt (gs_st σ3 4 (upd (σ3 4) x1.toNatClampNeg 4)) fun σ4 =>
    some (0, σ4)
  else
    some (0, σ3)
def fn_X1_takeOut_L22 (T : Nat) (K11 : Int32 → Int32 → Int32 → gS → Option (Int32 × gS)) : Nat → Int32 → Int32 → Int32 → Int32 → gS → Option (Int32 × gS)
  | 0, _, _, _, _, _ => none
  | n + 1, z1, z2, z3, z4, σ =>
    if 4 ≤ z4 then
      K11 z1 z2 (z3 + 1) σ
    else
      gs_ob (fn_X1_isOn T z3 z4 z1 σ) fun r2 σ3 =>
      if r2 = 0 then
        fn_X1_takeOut_L22 T K11 n z1 z2 z3 (z4 + 1) σ3
      else
        gs_ob (fn_X1_lose T z3 z4 σ3) fun _ σ5 =>
        fn_X1_takeOut_L22 T K11 n z1 (z2 + 1) z3 (z4 + 1) σ5
def fn_X1_takeOut_L11 (T : Nat) : Nat → Int32 → Int32 → Int32 → gS → Option (Int32 × gS)
  | 0, _, _, _, _ => none
  | n + 1, z1, z2, z3, σ =>
    if (σ 6 0) ≤ z3 then
      some (z2, σ)
    else
      fn_X1_takeOut_L22 T (fn_X1_takeOut_L11 T n) gs_fu z1 z2 z3 0 σ
def fn_X1_takeOut (T : Nat) (x1 : Int32) (σ : gS) : Option (Int32 × gS) :=
  gs_gd x1 7 <|
  gs_lt (gs_st σ 0 (upd (σ 0) x1.toNatClampNeg (vp_nar .boolean 0))) fun σ1 =>
  fn_X1_takeOut_L11 T gs_fu x1 0 0 σ1
def fn_X2_fail (T : Nat) (x1 : Int32) (σ : gS) : Option (Int32 × gS) :=
  gs_ob (fn_X2_isDisk T x1 σ) fun r1 σ2 =>
  if r1 = 0 then
    some ((-1), σ2)
  else
    gs_ob (fn_X1_isPresent T x1 σ2) fun r3 σ4 =>
    if r3 = 0 then
      some ((-1), σ4)
    else
      gs_ob (fn_X1_takeOut T x1 σ4) fun r5 σ6 =>
      some (r5, σ6)
def fn_X1_putIn (T : Nat) (x1 : Int32) (σ : gS) : Option (Int32 × gS) :=
  gs_gd x1 7 <|
  gs_lt (gs_st σ 0 (upd (σ 0) x1.toNatClampNeg (vp_nar .boolean 1))) fun σ1 =>
  some (0, σ1)
def fn_X2_replace (T : Nat) (x1 : Int32) (σ : gS) : Option (Int32 × gS) :=
  gs_ob (fn_X2_isDisk T x1 σ) fun r1 σ2 =>
  if r1 = 0 then
    some ((-1), σ2)
  else
    gs_ob (fn_X1_isPresent T x1 σ2) fun r3 σ4 =>
    if r3 = 0 then
      gs_ob (fn_X1_putIn T x1 σ4) fun _ σ6 =>
      some (0, σ6)
    else
      some ((-1), σ4)
def fn_X1_isStripe (T : Nat) (x1 : Int32) (σ : gS) : Option (Int32 × gS) :=
  if x1 < 0 then
    some (0, σ)
  else
    if (σ 6 0) ≤ x1 then
      some (0, σ)
    else
      some (1, σ)
def fn_X2_isColumn (T : Nat) (x0 : Int32) (σ : gS) : Option (Int32 × gS) :=
  if x0 < 0 then
    some (0, σ)
  else
    if 4 ≤ x0 then
      some (0, σ)
    else
      some (1, σ)
def fn_X1_flip (T : Nat) (x1 : Int32) (x2 : Int32) (x3 : Int32) (σ : gS) : Option (Int32 × gS) :=
  gs_ob (fn_X1_place T x1 x2 σ) fun r1 σ2 =>
  gs_gd r1 (4 * T) <|
  gs_gd r1 (4 * T) <|
  gs_lt (gs_st σ2 2 (upd (σ2 2) r1.toNatClampNeg ((σ2 2 r1.toNatClampNeg) ^^^ x3))) fun σ3 =>
  some (0, σ3)
def fn_X2_alter (T : Nat) (x1 : Int32) (x2 : Int32) (x3 : Int32) (σ : gS) : Option (Int32 × gS) :=
  gs_ob (fn_X1_isStripe T x1 σ) fun r1 σ2 =>
  if r1 = 0 then
    some ((-1), σ2)
  else
    gs_ob (fn_X2_isColumn T x2 σ2) fun r3 σ4 =>
    if r3 = 0 then
      some ((-1), σ4)
    else
      gs_ob (fn_X1_isLost T x1 x2 σ4) fun r5 σ6 =>
      if r5 = 0 then
        if x3 = 0 then
          some ((-1), σ6)
        else
          gs_ob (fn_X1_flip T x1 x2 x3 σ6) fun _ σ8 =>
          some (0, σ8)
      else
        some ((-1), σ6)
def fn_X2_isAmount (T : Nat) (x0 : Int32) (σ : gS) : Option (Int32 × gS) :=
  if x0 < 1 then
    some (0, σ)
  else
    if 21 < x0 then
      some (0, σ)
    else
      some (1, σ)
def fn_X1_firstLost_L2 (T : Nat) : Nat → Int32 → Int32 → gS → Option (Int32 × gS)
  | 0, _, _, _ => none
  | n + 1, z1, z2, σ =>
    if 4 ≤ z2 then
      some (4, σ)
    else
      gs_ob (fn_X1_isLost T z1 z2 σ) fun r1 σ2 =>
      if r1 = 0 then
        fn_X1_firstLost_L2 T n z1 (z2 + 1) σ2
      else
        some (z2, σ2)
def fn_X1_firstLost (T : Nat) (x1 : Int32) (σ : gS) : Option (Int32 × gS) :=
  fn_X1_firstLost_L2 T gs_fu x1 0 σ
def fn_X1_wordFromOthers_L5 (T : Nat) : Nat → Int32 → Int32 → Int32 → Int32 → gS → Option (Int32 × gS)
  | 0, _, _, _, _, _ => none
  | n + 1, z1, z2, z3, z4, σ =>
    if 4 ≤ z4 then
      some (z3, σ)
    else
      if z4 = z2 then
        fn_X1_wordFromOthers_L5 T n z1 z2 z3 (z4 + 1) σ
      else
        gs_ob (fn_X1_place T z1 z4 σ) fun r1 σ2 =>
        gs_gd r1 (4 * T) <|
        fn_X1_wordFromOthers_L5 T n z1 z2 (z3 ^^^ (σ2 2 r1.toNatClampNeg)) (z4 + 1) σ2
def fn_X1_wordFromOthers (T : Nat) (x1 : Int32) (x2 : Int32) (σ : gS) : Option (Int32 × gS) :=
  fn_X1_wordFromOthers_L5 T gs_fu x1 x2 0 0 σ
def fn_X1_workOutIn (T : Nat) (x1 : Int32) (σ : gS) : Option (Int32 × gS) :=
  gs_ob (fn_X1_firstLost T x1 σ) fun r1 σ2 =>
  if r1 = 4 then
    some (0, σ2)
  else
    gs_ob (fn_X1_isBroken T x1 σ2) fun r3 σ4 =>
    if r3 = 0 then
      gs_ob (fn_X1_home T x1 r1 σ4) fun r5 σ6 =>
      gs_gd r5 7 <|
      if (σ6 0 r5.toNatClampNeg) = 0 then
        gs_ob (fn_X1_spare T x1 σ6) fun r13 σ14 =>
        gs_gd r13 7 <|
        if (σ14 0 r13.toNatClampNeg) = 0 then
          some (0, σ14)
        else
          gs_gd x1 T <|
          if (σ14 4 x1.toNatClampNeg) = 4 then
            gs_gd x1 T <|
            gs_lt (gs_st σ14 4 (upd (σ14 4) x1.toNatClampNeg r1)) fun σ15 =>
            gs_ob (fn_X1_place T x1 r1 σ15) fun r16 σ17 =>
            gs_ob (fn_X1_wordFromOthers T x1 r1 σ17) fun r18 σ19 =>
            gs_gd r16 (4 * T) <|
            gs_lt (gs_st σ19 2 (upd (σ19 2) r16.toNatClampNeg r18)) fun σ20 =>
            gs_gd r16 (4 * T) <|
            gs_lt (gs_st σ20 3 (upd (σ20 3) r16.toNatClampNeg (vp_nar .boolean 0))) fun σ21 =>
            some (1, σ21)
          else
            some (0, σ14)
      else
        gs_ob (fn_X1_place T x1 r1 σ6) fun r7 σ8 =>
        gs_ob (fn_X1_wordFromOthers T x1 r1 σ8) fun r9 σ10 =>
        gs_gd r7 (4 * T) <|
        gs_lt (gs_st σ10 2 (upd (σ10 2) r7.toNatClampNeg r9)) fun σ11 =>
        gs_gd r7 (4 * T) <|
        gs_lt (gs_st σ11 3 (upd (σ11 3) r7.toNatClampNeg (vp_nar .boolean 0))) fun σ12 =>
        some (1, σ12)
    else
      some (0, σ4)
def fn_X1_workOut_L4 (T : Nat) : Nat → Int32 → Int32 → Int32 → gS → Option (Int32 × gS)
  | 0, _, _, _, _ => none
  | n + 1, z1, z2, z3, σ =>
    if (σ 6 0) ≤ z3 then
      some (z2, σ)
    else
      if z1 ≤ z2 then
        some (z2, σ)
      else
        gs_ob (fn_X1_workOutIn T z3 σ) fun r1 σ2 =>
        if r1 = 0 then
          fn_X1_workOut_L4 T n z1 z2 (z3 + 1) σ2
        else
          fn_X1_workOut_L4 T n z1 (z2 + 1) (z3 + 1) σ2
def fn_X1_workOut (T : Nat) (x1 : Int32) (σ : gS) : Option (Int32 × gS) :=
  fn_X1_workOut_L4 T gs_fu x1 0 0 σ
def fn_X2_rebuild (T : Nat) (x1 : Int32) (σ : gS) : Option (Int32 × gS) :=
  gs_ob (fn_X2_isAmount T x1 σ) fun r1 σ2 =>
  if r1 = 0 then
    some ((-1), σ2)
  else
    gs_ob (fn_X1_workOut T x1 σ2) fun r3 σ4 =>
    some (r3, σ4)
def fn_X1_bringHome_L4 (T : Nat) : Nat → Int32 → Int32 → Int32 → gS → Option (Int32 × gS)
  | 0, _, _, _, _ => none
  | n + 1, z1, z2, z3, σ =>
    if (σ 6 0) ≤ z3 then
      some (z2, σ)
    else
      if z1 ≤ z2 then
        some (z2, σ)
      else
        gs_gd z3 T <|
        if (σ 4 z3.toNatClampNeg) = 4 then
          fn_X1_bringHome_L4 T n z1 z2 (z3 + 1) σ
        else
          gs_gd z3 T <|
          gs_ob (fn_X1_home T z3 (σ 4 z3.toNatClampNeg) σ) fun r1 σ2 =>
          gs_gd r1 7 <|
          if (σ2 0 r1.toNatClampNeg) = 0 then
            fn_X1_bringHome_L4 T n z1 z2 (z3 + 1) σ2
          else
            gs_gd z3 T <|
            gs_lt (gs_st σ2 4 (upd (σ2 4) z3.toNatClampNeg 4)) fun σ3 =>
            fn_X1_bringHome_L4 T n z1 (z2 + 1) (z3 + 1) σ3
def fn_X1_bringHome (T : Nat) (x1 : Int32) (σ : gS) : Option (Int32 × gS) :=
  fn_X1_bringHome_L4 T gs_fu x1 0 0 σ
def fn_X2_moveBack (T : Nat) (x1 : Int32) (σ : gS) : Option (Int32 × gS) :=
  gs_ob (fn_X2_isAmount T x1 σ) fun r1 σ2 =>
  if r1 = 0 then
    some ((-1), σ2)
  else
    gs_ob (fn_X1_bringHome T x1 σ2) fun r3 σ4 =>
    some (r3, σ4)
def fn_X1_visit_L4 (T : Nat) : Nat → Int32 → Int32 → Int32 → gS → Option (Int32 × gS)
  | 0, _, _, _, _ => none
  | n + 1, z1, z2, z3, σ =>
    if z1 ≤ z3 then
      some (z2, σ)
    else
      gs_ob (fn_X1_isBroken T (σ 5 0) σ) fun r1 σ2 =>
      if r1 = 0 then
        gs_ob (fn_X1_mendAll T (σ2 5 0) σ2) fun r5 σ6 =>
        if (σ6 6 0) ≤ ((σ6 5 0) + 1) then
          gs_lt (gs_st σ6 5 (fun _ => 0)) fun σ7 =>
          fn_X1_visit_L4 T n z1 (z2 + r5) (z3 + 1) σ7
        else
          gs_lt (gs_st σ6 5 (fun _ => (σ6 5 0) + 1)) fun σ8 =>
          fn_X1_visit_L4 T n z1 (z2 + r5) (z3 + 1) σ8
      else
        if (σ2 6 0) ≤ ((σ2 5 0) + 1) then
          gs_lt (gs_st σ2 5 (fun _ => 0)) fun σ3 =>
          fn_X1_visit_L4 T n z1 z2 (z3 + 1) σ3
        else
          gs_lt (gs_st σ2 5 (fun _ => (σ2 5 0) + 1)) fun σ4 =>
          fn_X1_visit_L4 T n z1 z2 (z3 + 1) σ4
def fn_X1_visit (T : Nat) (x1 : Int32) (σ : gS) : Option (Int32 × gS) :=
  fn_X1_visit_L4 T gs_fu x1 0 0 σ
def fn_X2_scrub (T : Nat) (x1 : Int32) (σ : gS) : Option (Int32 × gS) :=
  gs_ob (fn_X2_isAmount T x1 σ) fun r1 σ2 =>
  if r1 = 0 then
    some ((-1), σ2)
  else
    gs_ob (fn_X1_visit T x1 σ2) fun r3 σ4 =>
    some (r3, σ4)
def fn_X2_file (T : Nat) (x1 : Int32) (x2 : Int32) (σ : gS) : Option (Int32 × gS) :=
  gs_ob (fn_X2_isFile T x1 σ) fun r1 σ2 =>
  if r1 = 0 then
    some ((-1), σ2)
  else
    if x2 < 0 then
      some ((-1), σ2)
    else
      if x2 ≤ 7 then
        if x2 = 0 then
          gs_ob (fn_X0_lengthOf T x1 σ2) fun r11 σ12 =>
          some (r11, σ12)
        else
          if x2 = 1 then
            gs_ob (fn_X0_extentsOf T x1 σ2) fun r9 σ10 =>
            some (r9, σ10)
          else
            gs_ob (fn_X0_extentsOf T x1 σ2) fun r3 σ4 =>
            if ((x2 / 2) - 1) < r3 then
              if (x2 - x2 / 2 * 2) = 0 then
                gs_ob (fn_X0_extentStart T x1 ((x2 / 2) - 1) σ4) fun r7 σ8 =>
                some (r7, σ8)
              else
                gs_ob (fn_X0_extentSize T x1 ((x2 / 2) - 1) σ4) fun r5 σ6 =>
                some (r5, σ6)
            else
              some ((-1), σ4)
      else
        some ((-1), σ2)
def fn_X1_condition (T : Nat) (x1 : Int32) (x2 : Int32) (σ : gS) : Option (Int32 × gS) :=
  gs_ob (fn_X1_isLost T x1 x2 σ) fun r1 σ2 =>
  if r1 = 0 then
    gs_ob (fn_X1_isWrong T x1 x2 σ2) fun r3 σ4 =>
    if r3 = 0 then
      some (0, σ4)
    else
      some (1, σ4)
  else
    some (2, σ2)
def fn_X1_movedColumn (T : Nat) (x1 : Int32) (σ : gS) : Option (Int32 × gS) :=
  gs_gd x1 T <|
  some (σ 4 x1.toNatClampNeg, σ)
def fn_X2_stripe (T : Nat) (x1 : Int32) (x2 : Int32) (σ : gS) : Option (Int32 × gS) :=
  gs_ob (fn_X1_isStripe T x1 σ) fun r1 σ2 =>
  if r1 = 0 then
    some ((-1), σ2)
  else
    gs_ob (fn_X2_isColumn T x2 σ2) fun r3 σ4 =>
    if r3 = 0 then
      if x2 = 4 then
        gs_ob (fn_X1_movedColumn T x1 σ4) fun r5 σ6 =>
        some (r5, σ6)
      else
        if x2 = 5 then
          gs_ob (fn_X1_isBroken T x1 σ4) fun r7 σ8 =>
          if r7 = 0 then
            some (0, σ8)
          else
            some (1, σ8)
        else
          some ((-1), σ4)
    else
      gs_ob (fn_X1_condition T x1 x2 σ4) fun r9 σ10 =>
      some (r9, σ10)
def fn_X1_cellsOn_L15 (T : Nat) (K4 : Int32 → Int32 → Int32 → gS → Option (Int32 × gS)) : Nat → Int32 → Int32 → Int32 → Int32 → gS → Option (Int32 × gS)
  | 0, _, _, _, _, _ => none
  | n + 1, z1, z2, z3, z4, σ =>
    if 4 ≤ z4 then
      K4 z1 z2 (z3 + 1) σ
    else
      gs_ob (fn_X1_isOn T z3 z4 z1 σ) fun r1 σ2 =>
      if r1 = 0 then
        fn_X1_cellsOn_L15 T K4 n z1 z2 z3 (z4 + 1) σ2
      else
        fn_X1_cellsOn_L15 T K4 n z1 (z2 + 1) z3 (z4 + 1) σ2
def fn_X1_cellsOn_L4 (T : Nat) : Nat → Int32 → Int32 → Int32 → gS → Option (Int32 × gS)
  | 0, _, _, _, _ => none
  | n + 1, z1, z2, z3, σ =>
    if (σ 6 0) ≤ z3 then
      some (z2, σ)
    else
      fn_X1_cellsOn_L15 T (fn_X1_cellsOn_L4 T n) gs_fu z1 z2 z3 0 σ
def fn_X1_cellsOn (T : Nat) (x1 : Int32) (σ : gS) : Option (Int32 × gS) :=
  fn_X1_cellsOn_L4 T gs_fu x1 0 0 σ
def fn_X1_movedCellsOn_L4 (T : Nat) : Nat → Int32 → Int32 → Int32 → gS → Option (Int32 × gS)
  | 0, _, _, _, _ => none
  | n + 1, z1, z2, z3, σ =>
    if (σ 6 0) ≤ z3 then
      some (z2, σ)
    else
      gs_gd z3 T <|
      if (σ 4 z3.toNatClampNeg) = 4 then
        fn_X1_movedCellsOn_L4 T n z1 z2 (z3 + 1) σ
      else
        gs_ob (fn_X1_spare T z3 σ) fun r1 σ2 =>
        if r1 = z1 then
          fn_X1_movedCellsOn_L4 T n z1 (z2 + 1) (z3 + 1) σ2
        else
          fn_X1_movedCellsOn_L4 T n z1 z2 (z3 + 1) σ2
def fn_X1_movedCellsOn (T : Nat) (x1 : Int32) (σ : gS) : Option (Int32 × gS) :=
  fn_X1_movedCellsOn_L4 T gs_fu x1 0 0 σ
def fn_X2_disk (T : Nat) (x1 : Int32) (x2 : Int32) (σ : gS) : Option (Int32 × gS) :=
  gs_ob (fn_X2_isDisk T x1 σ) fun r1 σ2 =>
  if r1 = 0 then
    some ((-1), σ2)
  else
    if x2 = 0 then
      gs_ob (fn_X1_isPresent T x1 σ2) fun r3 σ4 =>
      if r3 = 0 then
        some (0, σ4)
      else
        some (1, σ4)
    else
      if x2 = 1 then
        gs_ob (fn_X1_cellsOn T x1 σ2) fun r5 σ6 =>
        some (r5, σ6)
      else
        if x2 = 2 then
          gs_ob (fn_X1_movedCellsOn T x1 σ2) fun r7 σ8 =>
          some (r7, σ8)
        else
          some ((-1), σ2)
def fn_X0_freeBlocks_L4 (T : Nat) : Nat → Int32 → Int32 → gS → Option (Int32 × gS)
  | 0, _, _, _ => none
  | n + 1, z1, z2, σ =>
    if (nI (3 * T)) ≤ z2 then
      some (z1, σ)
    else
      gs_gd z2 (3 * T) <|
      if (σ 7 z2.toNatClampNeg) = 0 then
        fn_X0_freeBlocks_L4 T n (z1 + 1) (z2 + 1) σ
      else
        fn_X0_freeBlocks_L4 T n z1 (z2 + 1) σ
def fn_X0_freeBlocks (T : Nat) (σ : gS) : Option (Int32 × gS) :=
  fn_X0_freeBlocks_L4 T gs_fu 0 0 σ
def fn_X0_longestRunLength (T : Nat) (σ : gS) : Option (Int32 × gS) :=
  gs_ob (fn_X0_longestRun T σ) fun r1 σ2 =>
  if r1 = (-1) then
    some (0, σ2)
  else
    gs_ob (fn_X0_runFrom T r1 σ2) fun r3 σ4 =>
    some (r3, σ4)
def fn_X1_lostColumns_L4 (T : Nat) : Nat → Int32 → Int32 → gS → Option (Int32 × gS)
  | 0, _, _, _ => none
  | n + 1, z1, z2, σ =>
    if (nI (4 * T)) ≤ z2 then
      some (z1, σ)
    else
      gs_gd z2 (4 * T) <|
      if (σ 3 z2.toNatClampNeg) = 0 then
        fn_X1_lostColumns_L4 T n z1 (z2 + 1) σ
      else
        fn_X1_lostColumns_L4 T n (z1 + 1) (z2 + 1) σ
def fn_X1_lostColumns (T : Nat) (σ : gS) : Option (Int32 × gS) :=
  fn_X1_lostColumns_L4 T gs_fu 0 0 σ
def fn_X1_wrongColumns_L14 (T : Nat) (K4 : Int32 → Int32 → gS → Option (Int32 × gS)) : Nat → Int32 → Int32 → Int32 → gS → Option (Int32 × gS)
  | 0, _, _, _, _ => none
  | n + 1, z1, z2, z3, σ =>
    if 4 ≤ z3 then
      K4 z1 (z2 + 1) σ
    else
      gs_ob (fn_X1_isWrong T z2 z3 σ) fun r1 σ2 =>
      if r1 = 0 then
        fn_X1_wrongColumns_L14 T K4 n z1 z2 (z3 + 1) σ2
      else
        fn_X1_wrongColumns_L14 T K4 n (z1 + 1) z2 (z3 + 1) σ2
def fn_X1_wrongColumns_L4 (T : Nat) : Nat → Int32 → Int32 → gS → Option (Int32 × gS)
  | 0, _, _, _ => none
  | n + 1, z1, z2, σ =>
    if (σ 6 0) ≤ z2 then
      some (z1, σ)
    else
      fn_X1_wrongColumns_L14 T (fn_X1_wrongColumns_L4 T n) gs_fu z1 z2 0 σ
def fn_X1_wrongColumns (T : Nat) (σ : gS) : Option (Int32 × gS) :=
  fn_X1_wrongColumns_L4 T gs_fu 0 0 σ
def fn_X1_brokenStripes_L4 (T : Nat) : Nat → Int32 → Int32 → gS → Option (Int32 × gS)
  | 0, _, _, _ => none
  | n + 1, z1, z2, σ =>
    if (σ 6 0) ≤ z2 then
      some (z1, σ)
    else
      gs_ob (fn_X1_isBroken T z2 σ) fun r1 σ2 =>
      if r1 = 0 then
        fn_X1_brokenStripes_L4 T n z1 (z2 + 1) σ2
      else
        fn_X1_brokenStripes_L4 T n (z1 + 1) (z2 + 1) σ2
def fn_X1_brokenStripes (T : Nat) (σ : gS) : Option (Int32 × gS) :=
  fn_X1_brokenStripes_L4 T gs_fu 0 0 σ
def fn_X1_nextVisited (T : Nat) (σ : gS) : Option (Int32 × gS) :=
  some (σ 5 0, σ)
def fn_X0_freeRuns_L4 (T : Nat) : Nat → Int32 → Int32 → gS → Option (Int32 × gS)
  | 0, _, _, _ => none
  | n + 1, z1, z2, σ =>
    if (nI (3 * T)) ≤ z2 then
      some (z1, σ)
    else
      gs_ob (fn_X0_startsRun T z2 σ) fun r1 σ2 =>
      if r1 = 0 then
        fn_X0_freeRuns_L4 T n z1 (z2 + 1) σ2
      else
        fn_X0_freeRuns_L4 T n (z1 + 1) (z2 + 1) σ2
def fn_X0_freeRuns (T : Nat) (σ : gS) : Option (Int32 × gS) :=
  fn_X0_freeRuns_L4 T gs_fu 0 0 σ
def fn_X2_count (T : Nat) (x1 : Int32) (σ : gS) : Option (Int32 × gS) :=
  if x1 = 0 then
    gs_ob (fn_X0_freeBlocks T σ) fun r1 σ2 =>
    some (r1, σ2)
  else
    if x1 = 1 then
      gs_ob (fn_X0_longestRunLength T σ) fun r3 σ4 =>
      some (r3, σ4)
    else
      if x1 = 2 then
        gs_ob (fn_X1_lostColumns T σ) fun r5 σ6 =>
        some (r5, σ6)
      else
        if x1 = 3 then
          gs_ob (fn_X1_wrongColumns T σ) fun r7 σ8 =>
          some (r7, σ8)
        else
          if x1 = 4 then
            gs_ob (fn_X1_brokenStripes T σ) fun r9 σ10 =>
            some (r9, σ10)
          else
            if x1 = 5 then
              gs_ob (fn_X1_nextVisited T σ) fun r11 σ12 =>
              some (r11, σ12)
            else
              if x1 = 6 then
                gs_ob (fn_X0_freeRuns T σ) fun r13 σ14 =>
                some (r13, σ14)
              else
                some ((-1), σ)
