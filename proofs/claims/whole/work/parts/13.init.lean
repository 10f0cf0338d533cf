/-- what a constructor leaves: addresses, array classes, the state -/
abbrev gU : Type := (Nat → Nat) × (Nat → ClassId) × gS
def gs_0 : gS := fun _ _ => 0
/-- the number of stripes out of the groups asked for -/
def gs_T (g : Int32) : Nat := if g < 2 then 7 else if 3 ≤ g then 21 else 14
theorem gs_T_3 (g : Int32) : gs_T g = 7 ∨ gs_T g = 14 ∨ gs_T g = 21 := by
  unfold gs_T
  by_cases h1 : g < 2
  · rw [if_pos h1]; exact Or.inl rfl
  · rw [if_neg h1]
    by_cases h2 : 3 ≤ g
    · rw [if_pos h2]; exact Or.inr (Or.inr rfl)
    · rw [if_neg h2]; exact Or.inr (Or.inl rfl)
theorem gs_T_le (g : Int32) : gs_T g ≤ 21 := by rcases gs_T_3 g with h | h | h <;> omega
theorem gs_two {g : Int32} (h1 : ¬ g < 2) (h2 : ¬ 3 ≤ g) : g = 2 := by
  apply Int32.toInt_inj.mp
  rw [Int32.lt_iff_toInt_lt] at h1
  rw [Int32.le_iff_toInt_le] at h2
  have e2 : (2 : Int32).toInt = 2 := by decide
  have e3 : (3 : Int32).toInt = 3 := by decide
  rw [e2] at h1
  rw [e3] at h2
  rw [e2]
  omega
theorem gs_T_a (g : Int32) : 7 * (if 1 < (if g < 3 then g else 3) then (if g < 3 then g else 3) else 1) = nI (gs_T g) := by
  unfold gs_T
  by_cases h1 : g < 2
  · have h3 : g < 3 := by
      rw [Int32.lt_iff_toInt_lt] at h1 ⊢
      have e2 : (2 : Int32).toInt = 2 := by decide
      have e3 : (3 : Int32).toInt = 3 := by decide
      rw [e2] at h1
      rw [e3]
      omega
    have h0 : ¬ 1 < g := by
      rw [Int32.lt_iff_toInt_lt] at h1 ⊢
      have e2 : (2 : Int32).toInt = 2 := by decide
      have e3 : (1 : Int32).toInt = 1 := by decide
      rw [e2] at h1
      rw [e3]
      omega
    rw [if_pos h1, if_pos h3, if_neg h0]; rfl
  · by_cases h2 : 3 ≤ g
    · have h3 : ¬ g < 3 := by
        rw [Int32.lt_iff_toInt_lt]
        rw [Int32.le_iff_toInt_le] at h2
        omega
      rw [if_neg h1, if_pos h2, if_neg h3]; rfl
    · have e := gs_two h1 h2
      subst e
      decide
theorem gs_T_b (g : Int32) : (g < 1 → 7 * (1 : Int32) = nI (gs_T g)) ∧ (¬ g < 1 → 3 < g → 7 * (3 : Int32) = nI (gs_T g)) ∧ (¬ g < 1 → ¬ 3 < g → 7 * g = nI (gs_T g)) := by
  have e1 : (1 : Int32).toInt = 1 := by decide
  have e2 : (2 : Int32).toInt = 2 := by decide
  have e3 : (3 : Int32).toInt = 3 := by decide
  refine ⟨fun h => ?_, fun h1 h2 => ?_, fun h1 h2 => ?_⟩
  · have h3 : g < 2 := by
      rw [Int32.lt_iff_toInt_lt] at h ⊢
      rw [e1] at h
      rw [e2]
      omega
    unfold gs_T
    rw [if_pos h3]; rfl
  · have h3 : ¬ g < 2 := by
      rw [Int32.lt_iff_toInt_lt] at h2 ⊢
      rw [e3] at h2
      rw [e2]
      omega
    have h4 : 3 ≤ g := by
      rw [Int32.lt_iff_toInt_lt] at h2
      rw [Int32.le_iff_toInt_le]
      omega
    unfold gs_T
    rw [if_neg h3, if_pos h4]; rfl
  · have hc : g = 1 ∨ g = 2 ∨ g = 3 := by
      rw [Int32.lt_iff_toInt_lt, e1] at h1
      rw [Int32.lt_iff_toInt_lt, e3] at h2
      rcases (show g.toInt = 1 ∨ g.toInt = 2 ∨ g.toInt = 3 by omega) with h | h | h
      · exact Or.inl (Int32.toInt_inj.mp (by rw [h, e1]))
      · exact Or.inr (Or.inl (Int32.toInt_inj.mp (by rw [h, e2])))
      · exact Or.inr (Or.inr (Int32.toInt_inj.mp (by rw [h, e3])))
    rcases hc with rfl | rfl | rfl <;> decide
def gk_l (l : List Nat) : Nat → Nat := fun i => l.getD i 0
def wF (h : Nat → Nat) (k : Nat → ClassId) (T : Nat) (σ : gS) : va_W := (wA h k T σ).drop 7
def wS (h : Nat → Nat) (k : Nat → ClassId) (T : Nat) (σ : gS) : va_W := ((wA h k T σ).drop 1).take 6
def tF (k : Nat → ClassId) : List (ClassId × FieldType) := (tA k).drop 5
def tS (k : Nat → ClassId) : List (ClassId × FieldType) := (tA k).take 5
def iniF (σ : gS) : Prop := (∀ j, σ 7 j = 0) ∧ (∀ j, σ 8 j = 0) ∧ (∀ j, σ 9 j = 0) ∧ (∀ j, σ 10 j = 0) ∧ (∀ j, σ 11 j = 0)
def iniS (T : Nat) (σ : gS) : Prop := (∀ j, j < 7 → σ 0 j = 1) ∧ (∀ j, σ 1 j = 0) ∧ (∀ j, σ 2 j = 0) ∧ (∀ j, σ 3 j = 0) ∧ (∀ j, j < T → σ 4 j = 4) ∧ σ 5 0 = 0 ∧ σ 6 0 = nI T
def iniB (T : Nat) (σ : gS) : Prop := σ 0 0 = nI T ∧ ∀ k, 0 < k → ∀ j, σ k j = 0
def atF (dC : Nat → ClassId) (dI : Nat → Nat → Nat) (T : Nat) (A : Nat → Prop) (u : gU) (t : State) : Prop := va_P (dC, dI) vwCl (wF u.1 u.2.1 T u.2.2) t.heap ∧ va_K (dC, dI) vwCl (tF u.2.1) t ∧ va_D A (wF u.1 u.2.1 T u.2.2)
def atS (dC : Nat → ClassId) (dI : Nat → Nat → Nat) (T : Nat) (A : Nat → Prop) (u : gU) (t : State) : Prop := va_P (dC, dI) vwCl (wS u.1 u.2.1 T u.2.2) t.heap ∧ va_K (dC, dI) vwCl (tS u.2.1) t ∧ va_D A (wS u.1 u.2.1 T u.2.2)
def atA (dC : Nat → ClassId) (dI : Nat → Nat → Nat) (T : Nat) (A : Nat → Prop) (u : gU) (t : State) : Prop := va_P (dC, dI) vwCl (wA u.1 u.2.1 T u.2.2) t.heap ∧ va_K (dC, dI) vwCl (tA u.2.1) t ∧ va_D A (wA u.1 u.2.1 T u.2.2)
def atB (dC : Nat → ClassId) (dI : Nat → Nat → Nat) (T : Nat) (A : Nat → Prop) (u : gU) (t : State) : Prop := va_P (dC, dI) vwCl (wB u.1 u.2.1 T u.2.2) t.heap ∧ va_K (dC, dI) vwCl (tB u.2.1) t ∧ va_D A (wB u.1 u.2.1 T u.2.2)
/-- the addresses and array classes of the whole out of its two parts -/
def gh_c (a0 : Nat) (h1 h2 : Nat → Nat) : Nat → Nat := fun i => cond (Nat.beq i 0) a0 (cond (Nat.blt i 7) (h1 i) (h2 i))
def gk_c (k1 k2 : Nat → Nat) : Nat → Nat := fun i => cond (Nat.blt i 5) (k1 i) (k2 i)
def gs_c (σ1 σ2 : gS) : gS := fun i => cond (Nat.blt i 7) (σ1 i) (σ2 i)
theorem gs_nn {n : Nat} (h : n < 2 ^ 31) : ¬ nI n < 0 := nI_pos h
set_option maxHeartbeats 4000000 in
set_option maxRecDepth 100000 in
/-- FileTable(blocks): five arrays -/
theorem ci_X0 (l : Launch) (dC : Nat → ClassId) (dI : Nat → Nat → Nat) (a0 : Nat) (sz : Nat) (x1 : Int32) (T : Nat) (hT : T ≤ 21) (hx1 : x1 = nI (3 * T)) : Met l yX0_init wsX0_init ({ frames := 1, cells := 5, slots := 127, locals := 24 }) (va_Pc [.ref a0, .int x1] (fun U => U.heap.size = sz ∧ va_P (dC, dI) vwCl [(a0, .inr (0, [.null, .null, .null, .null, .null]))] U.heap ∧ va_K (dC, dI) vwCl [] U ∧ va_D (fun _ => True) [(a0, .inr (0, [.null, .null, .null, .null, .null]))])) (va_Qv (fun u : gU => u.1 7 = a0 ∧ iniF u.2.2) (fun u t => atF dC dI T (va_A [(a0, .inr (0, [.null, .null, .null, .null, .null]))] sz) u t) (va_A [(a0, .inr (0, [.null, .null, .null, .null, .null]))] sz)) 5 127 (va_A [(a0, .inr (0, [.null, .null, .null, .null, .null]))] sz) := by
  refine Met.ofW (cc := cX0_init) (maxL := 2) (ret := none) (by decide) rfl ?_
  intro p e s m args below meth c s₁ B hml hv
  obtain ⟨rfl, hsz, hP, hK, hD0⟩ := hv
  have hx := B.exec
  have hb := B.bytes
  have hr := B.returns
  have hts : ∀ w ∈ gG, w.before _ s = true := fun w h => atoms_spec (ws := wsX0_init) B.pre w (List.mem_cons_of_mem _ h)
  have hown : s.vm.findClass RX0 = some m.cls := findClass_of_methodNamed B.named
  have hlocks := B.notSynchronized
  have hin : meth.name = "<init>" := (name_of_methodNamed B.named B.method).1
  subst hsz
  have hD := hD0.self (sz := s.heap.size)
  generalize hAe : va_A [(a0, .inr (0, [.null, .null, .null, .null, .null]))] s.heap.size = A at hD ⊢
  have hA : ∀ q : Nat, s.heap.size ≤ q → A q := fun q h => by rw [← hAe]; exact Or.inr h
  have hS : va_S A s.heap s.heap [] := va_S.rf
  have hl := lv_entry ([.ref a0, .int x1]) (n := 2) (Nat.le_of_ble_eq_true rfl)
  rw [lg_entry_eq]
  generalize (lg_sl ([.ref a0, .int x1]) ++ List.replicate (2 - (lg_sl ([.ref a0, .int x1])).length) Slot.unset).toArray = ls at hl ⊢
  have hl : lv_has ls 2 [(0, .ref a0), (1, .int x1)] := hl
  refine lv_aload_n hx hb dX0_init_0 rfl (lv_at hl 0 rfl) ?_
  refine W.objInit hx hb hown (hts _ mg_71) (hts _ mg_43) (hts _ mg_44) rfl (by rw [hml]; exact hl.1) rfl dX0_init_1 (Nat.le_of_ble_eq_true rfl) (Nat.le_of_ble_eq_true rfl) ?_
  refine W.eq (g2 := F0 m 4 ls []) rfl ?_
  refine lv_aload_n hx hb dX0_init_4 rfl (lv_at hl 0 rfl) ?_
  refine lv_iload_n hx hb dX0_init_5 rfl (lv_at hl 1 rfl) ?_
  refine va_newa (atype := .boolean) (a0 := (3 * T, .inl (fun _ => 0))) (ty := .boolean) hx hb (hts _ mg_64) rfl hK hP hD hS hA (fun _ => rfl) (by rw [hx1]; exact nI_pos (by omega)) (by rw [hx1]; exact nI_clamp (by omega)) (by show (3 * T) * 1 ≤ 536870912; omega) (Nat.le_of_ble_eq_true rfl) (by show 0 + (3 * T) ≤ 127; omega) dX0_init_6 (fun q1 c0 H hK hP hD hS => ?_)
  have hP : va_P (dC, dI) vwCl [(a0, .inr (0, [.null, .null, .null, .null, .null])), (q1, .inl (c0, 3 * T, .inl (fun _ => 0)))] H := hP
  have hD : va_D A [(a0, .inr (0, [.null, .null, .null, .null, .null])), (q1, .inl (c0, 3 * T, .inl (fun _ => 0)))] := hD
  have hK : va_K (dC, dI) vwCl [(c0, .boolean)] s := hK
  refine W.widen (k := 1) (n := 63) (by omega) (by omega) ?_
  refine va_putF (D := (dC, dI)) (ci := 0) (v := .ref q1) (ty := .array .boolean) (C := RX0) (T := TX0) (N := 5) hx hb hts inG_X0 tyX0 tyX0_ok nmX0 hown hK hP hD hS 0 rfl rfl 0 (by decide) (hts _ mg_72) (fun _ h9 => h9) rfl hin rfl (by decide +kernel) rfl rfl (Nat.le_of_ble_eq_true rfl) dX0_init_8 (fun H locs hP hD hS => ?_)
  have hP : va_P (dC, dI) vwCl [(a0, .inr (0, [.ref q1, .null, .null, .null, .null])), (q1, .inl (c0, 3 * T, .inl (fun _ => 0)))] H := hP
  have hD : va_D A [(a0, .inr (0, [.ref q1, .null, .null, .null, .null])), (q1, .inl (c0, 3 * T, .inl (fun _ => 0)))] := hD
  refine lv_aload_n hx hb dX0_init_11 rfl (lv_at hl 0 rfl) ?_
  refine lv_bipush (v := 8) hx hb dX0_init_12 (by decide) ?_
  refine va_newa (atype := .int) (a0 := (8, .inl (fun _ => 0))) (ty := .int) hx hb (hts _ mg_65) rfl hK hP hD hS hA (fun _ => rfl) (by decide) (by decide) (Nat.le_of_ble_eq_true rfl) (Nat.le_of_ble_eq_true rfl) (Nat.le_of_ble_eq_true rfl) dX0_init_14 (fun q2 c1 H hK hP hD hS => ?_)
  have hP : va_P (dC, dI) vwCl [(a0, .inr (0, [.ref q1, .null, .null, .null, .null])), (q1, .inl (c0, 3 * T, .inl (fun _ => 0))), (q2, .inl (c1, 8, .inl (fun _ => 0)))] H := hP
  have hD : va_D A [(a0, .inr (0, [.ref q1, .null, .null, .null, .null])), (q1, .inl (c0, 3 * T, .inl (fun _ => 0))), (q2, .inl (c1, 8, .inl (fun _ => 0)))] := hD
  have hK : va_K (dC, dI) vwCl [(c0, .boolean), (c1, .int)] s := hK
  refine W.widen (k := 2) (n := 71) (by omega) (by omega) ?_
  refine va_putF (D := (dC, dI)) (ci := 0) (v := .ref q2) (ty := .array .int) (C := RX0) (T := TX0) (N := 5) hx hb hts inG_X0 tyX0 tyX0_ok nmX0 hown hK hP hD hS 0 rfl rfl 1 (by decide) (hts _ mg_73) (fun _ h9 => h9) rfl hin rfl (by decide +kernel) rfl rfl (Nat.le_of_ble_eq_true rfl) dX0_init_16 (fun H locs hP hD hS => ?_)
  have hP : va_P (dC, dI) vwCl [(a0, .inr (0, [.ref q1, .ref q2, .null, .null, .null])), (q1, .inl (c0, 3 * T, .inl (fun _ => 0))), (q2, .inl (c1, 8, .inl (fun _ => 0)))] H := hP
  have hD : va_D A [(a0, .inr (0, [.ref q1, .ref q2, .null, .null, .null])), (q1, .inl (c0, 3 * T, .inl (fun _ => 0))), (q2, .inl (c1, 8, .inl (fun _ => 0)))] := hD
  refine lv_aload_n hx hb dX0_init_19 rfl (lv_at hl 0 rfl) ?_
  refine lv_bipush (v := 8) hx hb dX0_init_20 (by decide) ?_
  refine va_newa (atype := .int) (a0 := (8, .inl (fun _ => 0))) (ty := .int) hx hb (hts _ mg_65) rfl hK hP hD hS hA (fun _ => rfl) (by decide) (by decide) (Nat.le_of_ble_eq_true rfl) (Nat.le_of_ble_eq_true rfl) (Nat.le_of_ble_eq_true rfl) dX0_init_22 (fun q3 c2 H hK hP hD hS => ?_)
  have hP : va_P (dC, dI) vwCl [(a0, .inr (0, [.ref q1, .ref q2, .null, .null, .null])), (q1, .inl (c0, 3 * T, .inl (fun _ => 0))), (q2, .inl (c1, 8, .inl (fun _ => 0))), (q3, .inl (c2, 8, .inl (fun _ => 0)))] H := hP
  have hD : va_D A [(a0, .inr (0, [.ref q1, .ref q2, .null, .null, .null])), (q1, .inl (c0, 3 * T, .inl (fun _ => 0))), (q2, .inl (c1, 8, .inl (fun _ => 0))), (q3, .inl (c2, 8, .inl (fun _ => 0)))] := hD
  have hK : va_K (dC, dI) vwCl [(c0, .boolean), (c1, .int), (c2, .int)] s := hK
  refine W.widen (k := 3) (n := 79) (by omega) (by omega) ?_
  refine va_putF (D := (dC, dI)) (ci := 0) (v := .ref q3) (ty := .array .int) (C := RX0) (T := TX0) (N := 5) hx hb hts inG_X0 tyX0 tyX0_ok nmX0 hown hK hP hD hS 0 rfl rfl 2 (by decide) (hts _ mg_74) (fun _ h9 => h9) rfl hin rfl (by decide +kernel) rfl rfl (Nat.le_of_ble_eq_true rfl) dX0_init_24 (fun H locs hP hD hS => ?_)
  have hP : va_P (dC, dI) vwCl [(a0, .inr (0, [.ref q1, .ref q2, .ref q3, .null, .null])), (q1, .inl (c0, 3 * T, .inl (fun _ => 0))), (q2, .inl (c1, 8, .inl (fun _ => 0))), (q3, .inl (c2, 8, .inl (fun _ => 0)))] H := hP
  have hD : va_D A [(a0, .inr (0, [.ref q1, .ref q2, .ref q3, .null, .null])), (q1, .inl (c0, 3 * T, .inl (fun _ => 0))), (q2, .inl (c1, 8, .inl (fun _ => 0))), (q3, .inl (c2, 8, .inl (fun _ => 0)))] := hD
  refine lv_aload_n hx hb dX0_init_27 rfl (lv_at hl 0 rfl) ?_
  refine lv_bipush (v := 24) hx hb dX0_init_28 (by decide) ?_
  refine va_newa (atype := .int) (a0 := (24, .inl (fun _ => 0))) (ty := .int) hx hb (hts _ mg_65) rfl hK hP hD hS hA (fun _ => rfl) (by decide) (by decide) (Nat.le_of_ble_eq_true rfl) (Nat.le_of_ble_eq_true rfl) (Nat.le_of_ble_eq_true rfl) dX0_init_30 (fun q4 c3 H hK hP hD hS => ?_)
  have hP : va_P (dC, dI) vwCl [(a0, .inr (0, [.ref q1, .ref q2, .ref q3, .null, .null])), (q1, .inl (c0, 3 * T, .inl (fun _ => 0))), (q2, .inl (c1, 8, .inl (fun _ => 0))), (q3, .inl (c2, 8, .inl (fun _ => 0))), (q4, .inl (c3, 24, .inl (fun _ => 0)))] H := hP
  have hD : va_D A [(a0, .inr (0, [.ref q1, .ref q2, .ref q3, .null, .null])), (q1, .inl (c0, 3 * T, .inl (fun _ => 0))), (q2, .inl (c1, 8, .inl (fun _ => 0))), (q3, .inl (c2, 8, .inl (fun _ => 0))), (q4, .inl (c3, 24, .inl (fun _ => 0)))] := hD
  have hK : va_K (dC, dI) vwCl [(c0, .boolean), (c1, .int), (c2, .int), (c3, .int)] s := hK
  refine W.widen (k := 4) (n := 103) (by omega) (by omega) ?_
  refine va_putF (D := (dC, dI)) (ci := 0) (v := .ref q4) (ty := .array .int) (C := RX0) (T := TX0) (N := 5) hx hb hts inG_X0 tyX0 tyX0_ok nmX0 hown hK hP hD hS 0 rfl rfl 3 (by decide) (hts _ mg_75) (fun _ h9 => h9) rfl hin rfl (by decide +kernel) rfl rfl (Nat.le_of_ble_eq_true rfl) dX0_init_32 (fun H locs hP hD hS => ?_)
  have hP : va_P (dC, dI) vwCl [(a0, .inr (0, [.ref q1, .ref q2, .ref q3, .ref q4, .null])), (q1, .inl (c0, 3 * T, .inl (fun _ => 0))), (q2, .inl (c1, 8, .inl (fun _ => 0))), (q3, .inl (c2, 8, .inl (fun _ => 0))), (q4, .inl (c3, 24, .inl (fun _ => 0)))] H := hP
  have hD : va_D A [(a0, .inr (0, [.ref q1, .ref q2, .ref q3, .ref q4, .null])), (q1, .inl (c0, 3 * T, .inl (fun _ => 0))), (q2, .inl (c1, 8, .inl (fun _ => 0))), (q3, .inl (c2, 8, .inl (fun _ => 0))), (q4, .inl (c3, 24, .inl (fun _ => 0)))] := hD
  refine lv_aload_n hx hb dX0_init_35 rfl (lv_at hl 0 rfl) ?_
  refine lv_bipush (v := 24) hx hb dX0_init_36 (by decide) ?_
  refine va_newa (atype := .int) (a0 := (24, .inl (fun _ => 0))) (ty := .int) hx hb (hts _ mg_65) rfl hK hP hD hS hA (fun _ => rfl) (by decide) (by decide) (Nat.le_of_ble_eq_true rfl) (Nat.le_of_ble_eq_true rfl) (Nat.le_of_ble_eq_true rfl) dX0_init_38 (fun q5 c4 H hK hP hD hS => ?_)
  have hP : va_P (dC, dI) vwCl [(a0, .inr (0, [.ref q1, .ref q2, .ref q3, .ref q4, .null])), (q1, .inl (c0, 3 * T, .inl (fun _ => 0))), (q2, .inl (c1, 8, .inl (fun _ => 0))), (q3, .inl (c2, 8, .inl (fun _ => 0))), (q4, .inl (c3, 24, .inl (fun _ => 0))), (q5, .inl (c4, 24, .inl (fun _ => 0)))] H := hP
  have hD : va_D A [(a0, .inr (0, [.ref q1, .ref q2, .ref q3, .ref q4, .null])), (q1, .inl (c0, 3 * T, .inl (fun _ => 0))), (q2, .inl (c1, 8, .inl (fun _ => 0))), (q3, .inl (c2, 8, .inl (fun _ => 0))), (q4, .inl (c3, 24, .inl (fun _ => 0))), (q5, .inl (c4, 24, .inl (fun _ => 0)))] := hD
  have hK : va_K (dC, dI) vwCl [(c0, .boolean), (c1, .int), (c2, .int), (c3, .int), (c4, .int)] s := hK
  refine W.widen (k := 5) (n := 127) (by omega) (by omega) ?_
  refine va_putF (D := (dC, dI)) (ci := 0) (v := .ref q5) (ty := .array .int) (C := RX0) (T := TX0) (N := 5) hx hb hts inG_X0 tyX0 tyX0_ok nmX0 hown hK hP hD hS 0 rfl rfl 4 (by decide) (hts _ mg_76) (fun _ h9 => h9) rfl hin rfl (by decide +kernel) rfl rfl (Nat.le_of_ble_eq_true rfl) dX0_init_40 (fun H locs hP hD hS => ?_)
  have hP : va_P (dC, dI) vwCl [(a0, .inr (0, [.ref q1, .ref q2, .ref q3, .ref q4, .ref q5])), (q1, .inl (c0, 3 * T, .inl (fun _ => 0))), (q2, .inl (c1, 8, .inl (fun _ => 0))), (q3, .inl (c2, 8, .inl (fun _ => 0))), (q4, .inl (c3, 24, .inl (fun _ => 0))), (q5, .inl (c4, 24, .inl (fun _ => 0)))] H := hP
  have hD : va_D A [(a0, .inr (0, [.ref q1, .ref q2, .ref q3, .ref q4, .ref q5])), (q1, .inl (c0, 3 * T, .inl (fun _ => 0))), (q2, .inl (c1, 8, .inl (fun _ => 0))), (q3, .inl (c2, 8, .inl (fun _ => 0))), (q4, .inl (c3, 24, .inl (fun _ => 0))), (q5, .inl (c4, 24, .inl (fun _ => 0)))] := hD
  obtain ⟨u, hu⟩ : ∃ u : gU, u = (gk_l [0, 0, 0, 0, 0, 0, 0, a0, q1, q2, q3, q4, q5], gk_l [0, 0, 0, 0, 0, c0, c1, c2, c3, c4], gs_0) := ⟨_, rfl⟩
  have hP9 : va_P (dC, dI) vwCl (wF u.1 u.2.1 T u.2.2) H := by rw [hu]; exact hP
  have hD9 : va_D A (wF u.1 u.2.1 T u.2.2) := by rw [hu]; exact hD
  have hK9 : va_K (dC, dI) vwCl (tF u.2.1) s := by rw [hu]; exact hK
  have hu9 : u.1 7 = a0 ∧ iniF u.2.2 := by rw [hu]; exact ⟨rfl, fun _ => rfl, fun _ => rfl, fun _ => rfl, fun _ => rfl, fun _ => rfl⟩
  exact W.vret hx hb hr (fun t ht hW => ⟨⟨u, rfl, hu9, by rw [ht]; exact hP9, va_K.moved hW.alike hK9, hD9⟩, hS.F ht⟩) hS.2.2 dX0_init_43
set_option maxHeartbeats 4000000 in
set_option maxRecDepth 100000 in
/-- Stripes(total): five arrays; all present, none moved -/
theorem ci_X1 (l : Launch) (dC : Nat → ClassId) (dI : Nat → Nat → Nat) (a0 : Nat) (sz : Nat) (x1 : Int32) (T : Nat) (hT : T ≤ 21) (hx1 : x1 = nI T) : Met l yX1_init wsX1_init ({ frames := 1, cells := 5, slots := 280, locals := 24 }) (va_Pc [.ref a0, .int x1] (fun U => U.heap.size = sz ∧ va_P (dC, dI) vwCl [(a0, .inr (1, [.int 0, .null, .null, .null, .null, .null, .int 0]))] U.heap ∧ va_K (dC, dI) vwCl [] U ∧ va_D (fun _ => True) [(a0, .inr (1, [.int 0, .null, .null, .null, .null, .null, .int 0]))])) (va_Qv (fun u : gU => u.1 1 = a0 ∧ iniS T u.2.2) (fun u t => atS dC dI T (va_A [(a0, .inr (1, [.int 0, .null, .null, .null, .null, .null, .int 0]))] sz) u t) (va_A [(a0, .inr (1, [.int 0, .null, .null, .null, .null, .null, .int 0]))] sz)) 5 280 (va_A [(a0, .inr (1, [.int 0, .null, .null, .null, .null, .null, .int 0]))] sz) := by
  refine Met.ofW (cc := cX1_init) (maxL := 3) (ret := none) (by decide) rfl ?_
  intro p e s m args below meth c s₁ B hml hv
  obtain ⟨rfl, hsz, hP, hK, hD0⟩ := hv
  have hx := B.exec
  have hb := B.bytes
  have hr := B.returns
  have hts : ∀ w ∈ gG, w.before _ s = true := fun w h => atoms_spec (ws := wsX1_init) B.pre w (List.mem_cons_of_mem _ h)
  have hown : s.vm.findClass RX1 = some m.cls := findClass_of_methodNamed B.named
  have hlocks := B.notSynchronized
  have hin : meth.name = "<init>" := (name_of_methodNamed B.named B.method).1
  subst hsz
  have hD := hD0.self (sz := s.heap.size)
  generalize hAe : va_A [(a0, .inr (1, [.int 0, .null, .null, .null, .null, .null, .int 0]))] s.heap.size = A at hD ⊢
  have hA : ∀ q : Nat, s.heap.size ≤ q → A q := fun q h => by rw [← hAe]; exact Or.inr h
  have hS : va_S A s.heap s.heap [] := va_S.rf
  have hl := lv_entry ([.ref a0, .int x1]) (n := 3) (Nat.le_of_ble_eq_true rfl)
  rw [lg_entry_eq]
  generalize (lg_sl ([.ref a0, .int x1]) ++ List.replicate (3 - (lg_sl ([.ref a0, .int x1])).length) Slot.unset).toArray = ls at hl ⊢
  have hl : lv_has ls 3 [(0, .ref a0), (1, .int x1)] := hl
  have h4T : x1 * 4 = nI (4 * T) := by rw [hx1, show (4 : Int32) = nI 4 from rfl, pk_mul, Nat.mul_comm]
  refine lv_aload_n hx hb dX1_init_0 rfl (lv_at hl 0 rfl) ?_
  refine W.objInit hx hb hown (hts _ mg_56) (hts _ mg_43) (hts _ mg_44) rfl (by rw [hml]; exact hl.1) rfl dX1_init_1 (Nat.le_of_ble_eq_true rfl) (Nat.le_of_ble_eq_true rfl) ?_
  refine W.eq (g2 := F0 m 4 ls []) rfl ?_
  refine lv_aload_n hx hb dX1_init_4 rfl (lv_at hl 0 rfl) ?_
  refine lv_iload_n hx hb dX1_init_5 rfl (lv_at hl 1 rfl) ?_
  refine va_putF (D := (dC, dI)) (ci := 1) (v := .int x1) (ty := .int) (C := RX1) (T := TX1) (N := 7) hx hb hts inG_X1 tyX1 tyX1_ok nmX1 hown hK hP hD hS 0 rfl rfl 0 (by decide) (hts _ mg_57) (fun _ h9 => h9) rfl hin rfl (by decide +kernel) rfl rfl (Nat.le_of_ble_eq_true rfl) dX1_init_6 (fun H locs hP hD hS => ?_)
  have hP : va_P (dC, dI) vwCl [(a0, .inr (1, [.int x1, .null, .null, .null, .null, .null, .int 0]))] H := hP
  have hD : va_D A [(a0, .inr (1, [.int x1, .null, .null, .null, .null, .null, .int 0]))] := hD
  refine lv_aload_n hx hb dX1_init_9 rfl (lv_at hl 0 rfl) ?_
  refine lv_bipush (v := 7) hx hb dX1_init_10 (by decide) ?_
  refine va_newa (atype := .boolean) (a0 := (7, .inl (fun _ => 0))) (ty := .boolean) hx hb (hts _ mg_64) rfl hK hP hD hS hA (fun _ => rfl) (by decide) (by decide) (Nat.le_of_ble_eq_true rfl) (Nat.le_of_ble_eq_true rfl) (Nat.le_of_ble_eq_true rfl) dX1_init_12 (fun q1 c0 H hK hP hD hS => ?_)
  have hP : va_P (dC, dI) vwCl [(a0, .inr (1, [.int x1, .null, .null, .null, .null, .null, .int 0])), (q1, .inl (c0, 7, .inl (fun _ => 0)))] H := hP
  have hD : va_D A [(a0, .inr (1, [.int x1, .null, .null, .null, .null, .null, .int 0])), (q1, .inl (c0, 7, .inl (fun _ => 0)))] := hD
  have hK : va_K (dC, dI) vwCl [(c0, .boolean)] s := hK
  refine W.widen (k := 1) (n := 7) (by omega) (by omega) ?_
  refine va_putF (D := (dC, dI)) (ci := 1) (v := .ref q1) (ty := .array .boolean) (C := RX1) (T := TX1) (N := 7) hx hb hts inG_X1 tyX1 tyX1_ok nmX1 hown hK hP hD hS 0 rfl rfl 1 (by decide) (hts _ mg_58) (fun _ h9 => h9) rfl hin rfl (by decide +kernel) rfl rfl (Nat.le_of_ble_eq_true rfl) dX1_init_14 (fun H locs hP hD hS => ?_)
  have hP : va_P (dC, dI) vwCl [(a0, .inr (1, [.int x1, .ref q1, .null, .null, .null, .null, .int 0])), (q1, .inl (c0, 7, .inl (fun _ => 0)))] H := hP
  have hD : va_D A [(a0, .inr (1, [.int x1, .ref q1, .null, .null, .null, .null, .int 0])), (q1, .inl (c0, 7, .inl (fun _ => 0)))] := hD
  refine lv_aload_n hx hb dX1_init_17 rfl (lv_at hl 0 rfl) ?_
  refine lv_iload_n hx hb dX1_init_18 rfl (lv_at hl 1 rfl) ?_
  refine lv_iconst (v := 4) hx hb dX1_init_19 (by decide) ?_
  refine lv_imul hx hb dX1_init_20 ?_
  refine va_newa (atype := .int) (a0 := (4 * T, .inl (fun _ => 0))) (ty := .int) hx hb (hts _ mg_65) rfl hK hP hD hS hA (fun _ => rfl) (by rw [h4T]; exact nI_pos (by omega)) (by rw [h4T]; exact nI_clamp (by omega)) (by show (4 * T) * 4 ≤ 536870912; omega) (Nat.le_of_ble_eq_true rfl) (by show 7 + (4 * T) ≤ 280; omega) dX1_init_21 (fun q2 c1 H hK hP hD hS => ?_)
  have hP : va_P (dC, dI) vwCl [(a0, .inr (1, [.int x1, .ref q1, .null, .null, .null, .null, .int 0])), (q1, .inl (c0, 7, .inl (fun _ => 0))), (q2, .inl (c1, 4 * T, .inl (fun _ => 0)))] H := hP
  have hD : va_D A [(a0, .inr (1, [.int x1, .ref q1, .null, .null, .null, .null, .int 0])), (q1, .inl (c0, 7, .inl (fun _ => 0))), (q2, .inl (c1, 4 * T, .inl (fun _ => 0)))] := hD
  have hK : va_K (dC, dI) vwCl [(c0, .boolean), (c1, .int)] s := hK
  refine W.widen (k := 2) (n := 91) (by omega) (by omega) ?_
  refine va_putF (D := (dC, dI)) (ci := 1) (v := .ref q2) (ty := .array .int) (C := RX1) (T := TX1) (N := 7) hx hb hts inG_X1 tyX1 tyX1_ok nmX1 hown hK hP hD hS 0 rfl rfl 2 (by decide) (hts _ mg_59) (fun _ h9 => h9) rfl hin rfl (by decide +kernel) rfl rfl (Nat.le_of_ble_eq_true rfl) dX1_init_23 (fun H locs hP hD hS => ?_)
  have hP : va_P (dC, dI) vwCl [(a0, .inr (1, [.int x1, .ref q1, .ref q2, .null, .null, .null, .int 0])), (q1, .inl (c0, 7, .inl (fun _ => 0))), (q2, .inl (c1, 4 * T, .inl (fun _ => 0)))] H := hP
  have hD : va_D A [(a0, .inr (1, [.int x1, .ref q1, .ref q2, .null, .null, .null, .int 0])), (q1, .inl (c0, 7, .inl (fun _ => 0))), (q2, .inl (c1, 4 * T, .inl (fun _ => 0)))] := hD
  refine lv_aload_n hx hb dX1_init_26 rfl (lv_at hl 0 rfl) ?_
  refine lv_iload_n hx hb dX1_init_27 rfl (lv_at hl 1 rfl) ?_
  refine lv_iconst (v := 4) hx hb dX1_init_28 (by decide) ?_
  refine lv_imul hx hb dX1_init_29 ?_
  refine va_newa (atype := .int) (a0 := (4 * T, .inl (fun _ => 0))) (ty := .int) hx hb (hts _ mg_65) rfl hK hP hD hS hA (fun _ => rfl) (by rw [h4T]; exact nI_pos (by omega)) (by rw [h4T]; exact nI_clamp (by omega)) (by show (4 * T) * 4 ≤ 536870912; omega) (Nat.le_of_ble_eq_true rfl) (by show 91 + (4 * T) ≤ 280; omega) dX1_init_30 (fun q3 c2 H hK hP hD hS => ?_)
  have hP : va_P (dC, dI) vwCl [(a0, .inr (1, [.int x1, .ref q1, .ref q2, .null, .null, .null, .int 0])), (q1, .inl (c0, 7, .inl (fun _ => 0))), (q2, .inl (c1, 4 * T, .inl (fun _ => 0))), (q3, .inl (c2, 4 * T, .inl (fun _ => 0)))] H := hP
  have hD : va_D A [(a0, .inr (1, [.int x1, .ref q1, .ref q2, .null, .null, .null, .int 0])), (q1, .inl (c0, 7, .inl (fun _ => 0))), (q2, .inl (c1, 4 * T, .inl (fun _ => 0))), (q3, .inl (c2, 4 * T, .inl (fun _ => 0)))] := hD
  have hK : va_K (dC, dI) vwCl [(c0, .boolean), (c1, .int), (c2, .int)] s := hK
  refine W.widen (k := 3) (n := 175) (by omega) (by omega) ?_
  refine va_putF (D := (dC, dI)) (ci := 1) (v := .ref q3) (ty := .array .int) (C := RX1) (T := TX1) (N := 7) hx hb hts inG_X1 tyX1 tyX1_ok nmX1 hown hK hP hD hS 0 rfl rfl 3 (by decide) (hts _ mg_60) (fun _ h9 => h9) rfl hin rfl (by decide +kernel) rfl rfl (Nat.le_of_ble_eq_true rfl) dX1_init_32 (fun H locs hP hD hS => ?_)
  have hP : va_P (dC, dI) vwCl [(a0, .inr (1, [.int x1, .ref q1, .ref q2, .ref q3, .null, .null, .int 0])), (q1, .inl (c0, 7, .inl (fun _ => 0))), (q2, .inl (c1, 4 * T, .inl (fun _ => 0))), (q3, .inl (c2, 4 * T, .inl (fun _ => 0)))] H := hP
  have hD : va_D A [(a0, .inr (1, [.int x1, .ref q1, .ref q2, .ref q3, .null, .null, .int 0])), (q1, .inl (c0, 7, .inl (fun _ => 0))), (q2, .inl (c1, 4 * T, .inl (fun _ => 0))), (q3, .inl (c2, 4 * T, .inl (fun _ => 0)))] := hD
  refine lv_aload_n hx hb dX1_init_35 rfl (lv_at hl 0 rfl) ?_
  refine lv_iload_n hx hb dX1_init_36 rfl (lv_at hl 1 rfl) ?_
  refine lv_iconst (v := 4) hx hb dX1_init_37 (by decide) ?_
  refine lv_imul hx hb dX1_init_38 ?_
  refine va_newa (atype := .boolean) (a0 := (4 * T, .inl (fun _ => 0))) (ty := .boolean) hx hb (hts _ mg_64) rfl hK hP hD hS hA (fun _ => rfl) (by rw [h4T]; exact nI_pos (by omega)) (by rw [h4T]; exact nI_clamp (by omega)) (by show (4 * T) * 1 ≤ 536870912; omega) (Nat.le_of_ble_eq_true rfl) (by show 175 + (4 * T) ≤ 280; omega) dX1_init_39 (fun q4 c3 H hK hP hD hS => ?_)
  have hP : va_P (dC, dI) vwCl [(a0, .inr (1, [.int x1, .ref q1, .ref q2, .ref q3, .null, .null, .int 0])), (q1, .inl (c0, 7, .inl (fun _ => 0))), (q2, .inl (c1, 4 * T, .inl (fun _ => 0))), (q3, .inl (c2, 4 * T, .inl (fun _ => 0))), (q4, .inl (c3, 4 * T, .inl (fun _ => 0)))] H := hP
  have hD : va_D A [(a0, .inr (1, [.int x1, .ref q1, .ref q2, .ref q3, .null, .null, .int 0])), (q1, .inl (c0, 7, .inl (fun _ => 0))), (q2, .inl (c1, 4 * T, .inl (fun _ => 0))), (q3, .inl (c2, 4 * T, .inl (fun _ => 0))), (q4, .inl (c3, 4 * T, .inl (fun _ => 0)))] := hD
  have hK : va_K (dC, dI) vwCl [(c0, .boolean), (c1, .int), (c2, .int), (c3, .boolean)] s := hK
  refine W.widen (k := 4) (n := 259) (by omega) (by omega) ?_
  refine va_putF (D := (dC, dI)) (ci := 1) (v := .ref q4) (ty := .array .boolean) (C := RX1) (T := TX1) (N := 7) hx hb hts inG_X1 tyX1 tyX1_ok nmX1 hown hK hP hD hS 0 rfl rfl 4 (by decide) (hts _ mg_61) (fun _ h9 => h9) rfl hin rfl (by decide +kernel) rfl rfl (Nat.le_of_ble_eq_true rfl) dX1_init_41 (fun H locs hP hD hS => ?_)
  have hP : va_P (dC, dI) vwCl [(a0, .inr (1, [.int x1, .ref q1, .ref q2, .ref q3, .ref q4, .null, .int 0])), (q1, .inl (c0, 7, .inl (fun _ => 0))), (q2, .inl (c1, 4 * T, .inl (fun _ => 0))), (q3, .inl (c2, 4 * T, .inl (fun _ => 0))), (q4, .inl (c3, 4 * T, .inl (fun _ => 0)))] H := hP
  have hD : va_D A [(a0, .inr (1, [.int x1, .ref q1, .ref q2, .ref q3, .ref q4, .null, .int 0])), (q1, .inl (c0, 7, .inl (fun _ => 0))), (q2, .inl (c1, 4 * T, .inl (fun _ => 0))), (q3, .inl (c2, 4 * T, .inl (fun _ => 0))), (q4, .inl (c3, 4 * T, .inl (fun _ => 0)))] := hD
  refine lv_aload_n hx hb dX1_init_44 rfl (lv_at hl 0 rfl) ?_
  refine lv_iload_n hx hb dX1_init_45 rfl (lv_at hl 1 rfl) ?_
  refine va_newa (atype := .int) (a0 := (T, .inl (fun _ => 0))) (ty := .int) hx hb (hts _ mg_65) rfl hK hP hD hS hA (fun _ => rfl) (by rw [hx1]; exact nI_pos (by omega)) (by rw [hx1]; exact nI_clamp (by omega)) (by show T * 4 ≤ 536870912; omega) (Nat.le_of_ble_eq_true rfl) (by show 259 + T ≤ 280; omega) dX1_init_46 (fun q5 c4 H hK hP hD hS => ?_)
  have hP : va_P (dC, dI) vwCl [(a0, .inr (1, [.int x1, .ref q1, .ref q2, .ref q3, .ref q4, .null, .int 0])), (q1, .inl (c0, 7, .inl (fun _ => 0))), (q2, .inl (c1, 4 * T, .inl (fun _ => 0))), (q3, .inl (c2, 4 * T, .inl (fun _ => 0))), (q4, .inl (c3, 4 * T, .inl (fun _ => 0))), (q5, .inl (c4, T, .inl (fun _ => 0)))] H := hP
  have hD : va_D A [(a0, .inr (1, [.int x1, .ref q1, .ref q2, .ref q3, .ref q4, .null, .int 0])), (q1, .inl (c0, 7, .inl (fun _ => 0))), (q2, .inl (c1, 4 * T, .inl (fun _ => 0))), (q3, .inl (c2, 4 * T, .inl (fun _ => 0))), (q4, .inl (c3, 4 * T, .inl (fun _ => 0))), (q5, .inl (c4, T, .inl (fun _ => 0)))] := hD
  have hK : va_K (dC, dI) vwCl [(c0, .boolean), (c1, .int), (c2, .int), (c3, .boolean), (c4, .int)] s := hK
  refine W.widen (k := 5) (n := 280) (by omega) (by omega) ?_
  refine va_putF (D := (dC, dI)) (ci := 1) (v := .ref q5) (ty := .array .int) (C := RX1) (T := TX1) (N := 7) hx hb hts inG_X1 tyX1 tyX1_ok nmX1 hown hK hP hD hS 0 rfl rfl 5 (by decide) (hts _ mg_62) (fun _ h9 => h9) rfl hin rfl (by decide +kernel) rfl rfl (Nat.le_of_ble_eq_true rfl) dX1_init_48 (fun H locs hP hD hS => ?_)
  have hP : va_P (dC, dI) vwCl [(a0, .inr (1, [.int x1, .ref q1, .ref q2, .ref q3, .ref q4, .ref q5, .int 0])), (q1, .inl (c0, 7, .inl (fun _ => 0))), (q2, .inl (c1, 4 * T, .inl (fun _ => 0))), (q3, .inl (c2, 4 * T, .inl (fun _ => 0))), (q4, .inl (c3, 4 * T, .inl (fun _ => 0))), (q5, .inl (c4, T, .inl (fun _ => 0)))] H := hP
  have hD : va_D A [(a0, .inr (1, [.int x1, .ref q1, .ref q2, .ref q3, .ref q4, .ref q5, .int 0])), (q1, .inl (c0, 7, .inl (fun _ => 0))), (q2, .inl (c1, 4 * T, .inl (fun _ => 0))), (q3, .inl (c2, 4 * T, .inl (fun _ => 0))), (q4, .inl (c3, 4 * T, .inl (fun _ => 0))), (q5, .inl (c4, T, .inl (fun _ => 0)))] := hD
  obtain ⟨hh, ehh⟩ : ∃ f : Nat → Nat, f = gk_l [0, a0, q1, q2, q3, q4, q5] := ⟨_, rfl⟩
  obtain ⟨kk, ekk⟩ : ∃ f : Nat → Nat, f = gk_l [c0, c1, c2, c3, c4] := ⟨_, rfl⟩
  obtain ⟨σ0, eσ⟩ : ∃ f : gS, f = gs_st gs_0 6 (fun _ => nI T) := ⟨_, rfl⟩
  have hh1 : hh 1 = a0 := by rw [ehh]; rfl
  have hP : va_P (dC, dI) vwCl (wS hh kk T σ0) H := by rw [ehh, ekk, eσ, ← hx1]; exact hP
  have hD : va_D A (wS hh kk T σ0) := by rw [ehh, ekk, eσ, ← hx1]; exact hD
  have hK : va_K (dC, dI) vwCl (tS kk) s := by rw [ekk]; exact hK
  have hi0 : (∀ j, σ0 1 j = 0) ∧ (∀ j, σ0 2 j = 0) ∧ (∀ j, σ0 3 j = 0) ∧ σ0 5 0 = 0 ∧ σ0 6 0 = nI T := by rw [eσ]; exact ⟨fun _ => rfl, fun _ => rfl, fun _ => rfl, rfl, rfl⟩
  clear eσ ehh ekk
  rw [← hh1] at hl
  have L74 : ∀ (n i : Nat) (z : Int32) (σ : gS) (H : Heap) (locs : List Loc) (ls : Array Slot), i ≤ T → T + 1 ≤ i + n → z = nI i → ((∀ j, σ 1 j = 0) ∧ (∀ j, σ 2 j = 0) ∧ (∀ j, σ 3 j = 0) ∧ σ 5 0 = 0 ∧ σ 6 0 = nI T) → (∀ j, j < 7 → σ 0 j = 1) → (∀ j, j < i → σ 4 j = 4) → va_P (dC, dI) vwCl (wS hh kk T σ) H → va_D A (wS hh kk T σ) → va_S A s.heap H locs → lv_has ls 3 [(0, .ref (hh 1)), (1, .int x1), (2, .int z)] → W p l e ({ frames := 1, cells := 5, slots := 280, locals := 24 }) s m ([.ref a0, .int x1] : List Value).toArray below meth c H locs 5 280 (MQ below (va_Qv (fun u : gU => u.1 1 = a0 ∧ iniS T u.2.2) (fun u t => atS dC dI T A u t) A) ([.ref a0, .int x1] : List Value).toArray s 5 280 A) (F0 m 74 ls []) := by
    intro n
    induction n with
    | zero => intro i z σ H locs ls h1 h2; exact absurd h2 (by omega)
    | succ n ih =>
      intro i z σ H locs ls h1 h2 ez hi hi0 hi4 hP hD hS hl
      refine lv_iload_n hx hb dX1_init_74 rfl (lv_at hl 2 rfl) ?_
      refine lv_iload_n hx hb dX1_init_75 rfl (lv_at hl 1 rfl) ?_
      refine lv_icmp_ge (tgt := 92) hx hb dX1_init_76 (by decide) (fun hq => ?_) (fun hq => ?_)
      · have hT9 : ¬ i < T := fun q => by rw [ez, hx1] at hq; exact nI_ge q (by omega) hq
        exact W.vret hx hb hr (fun t ht hW => ⟨⟨(hh, kk, σ), rfl, ⟨hh1, hi0, hi.1, hi.2.1, hi.2.2.1, fun j hj => hi4 j (by omega), hi.2.2.2⟩, by rw [ht]; exact hP, va_K.moved hW.alike hK, hD⟩, hS.F ht⟩) hS.2.2 dX1_init_92
      · have hT9 : i < T := by
          rcases Nat.lt_or_ge i T with q | q
          · exact q
          · exact absurd (by rw [ez, hx1]; exact nI_le q (by omega)) hq
        refine lv_aload_n hx hb dX1_init_79 rfl (lv_at hl 0 rfl) ?_
        refine va_get (D := (dC, dI)) (ci := 1) (v := .ref (hh 6)) (C := RX1) (T := TX1) (N := 7) hx hb hts inG_X1 hown hK hP 0 rfl rfl 5 (by decide) (hts _ mg_62) (fun _ h9 => h9) rfl dX1_init_80 ?_
        refine lv_iload_n hx hb dX1_init_83 rfl (lv_at hl 2 rfl) ?_
        refine lv_iconst (v := 4) hx hb dX1_init_84 (by decide) ?_
        have hin9 : vp_in z T := by rw [ez]; exact vp_in_nI hT9 (by omega)
        refine va_iast hx hb hK hP hD hS 5 4 rfl rfl hin9 dX1_init_85 (fun H locs hP hD hS => ?_)
        have ec : z.toNatClampNeg = i := by rw [ez]; exact nI_clamp (by omega)
        obtain ⟨σ1, e1⟩ : ∃ f : gS, f = gs_st σ 4 (upd (σ 4) z.toNatClampNeg 4) := ⟨_, rfl⟩
        have hP : va_P (dC, dI) vwCl (wS hh kk T σ1) H := by rw [e1]; exact hP
        have hD : va_D A (wS hh kk T σ1) := by rw [e1]; exact hD
        refine lv_iinc (v := z + 1) (lv' := [(2, .int (z + 1)), (0, .ref (hh 1)), (1, .int x1)]) hx hb dX1_init_86 hl (k := 2) rfl rfl (by decide) rfl (fun ls hl => ?_)
        refine lv_goto (tgt := 74) hx hb dX1_init_89 (by decide) ?_
        refine ih (i + 1) (z + 1) σ1 _ _ _ hT9 (by omega) (by rw [ez]; exact nI_1 i) (by rw [e1]; exact hi) (by rw [e1]; exact hi0) (fun j hj => ?_) hP hD hS (lv_sub hl [1, 2, 0] rfl)
        rw [e1, ec]
        show upd (σ 4) i 4 j = 4
        by_cases hj9 : j = i
        · rw [hj9]; exact pk_us
        · rw [pk_un hj9]; exact hi4 j (by omega)
  have L53 : ∀ (n i : Nat) (z : Int32) (σ : gS) (H : Heap) (locs : List Loc) (ls : Array Slot), i ≤ 7 → 8 ≤ i + n → z = nI i → ((∀ j, σ 1 j = 0) ∧ (∀ j, σ 2 j = 0) ∧ (∀ j, σ 3 j = 0) ∧ σ 5 0 = 0 ∧ σ 6 0 = nI T) → (∀ j, j < i → σ 0 j = 1) → va_P (dC, dI) vwCl (wS hh kk T σ) H → va_D A (wS hh kk T σ) → va_S A s.heap H locs → lv_has ls 3 [(0, .ref (hh 1)), (1, .int x1), (2, .int z)] → W p l e ({ frames := 1, cells := 5, slots := 280, locals := 24 }) s m ([.ref a0, .int x1] : List Value).toArray below meth c H locs 5 280 (MQ below (va_Qv (fun u : gU => u.1 1 = a0 ∧ iniS T u.2.2) (fun u t => atS dC dI T A u t) A) ([.ref a0, .int x1] : List Value).toArray s 5 280 A) (F0 m 53 ls []) := by
    intro n
    induction n with
    | zero => intro i z σ H locs ls h1 h2; exact absurd h2 (by omega)
    | succ n ih =>
      intro i z σ H locs ls h1 h2 ez hi hi0 hP hD hS hl
      refine lv_iload_n hx hb dX1_init_53 rfl (lv_at hl 2 rfl) ?_
      refine lv_bipush (v := 7) hx hb dX1_init_54 (by decide) ?_
      refine lv_icmp_ge (tgt := 72) hx hb dX1_init_56 (by decide) (fun hq => ?_) (fun hq => ?_)
      · have hT9 : ¬ i < 7 := fun q => by rw [ez] at hq; exact nI_ge (b := 7) q (by omega) hq
        refine lv_iconst (v := 0) hx hb dX1_init_72 (by decide) ?_
        refine lv_istore_n (lv' := [(2, .int 0), (0, .ref (hh 1)), (1, .int x1)]) hx hb dX1_init_73 rfl hl (by decide) rfl (fun ls hl => ?_)
        exact L74 (T + 1) 0 0 σ _ _ _ (Nat.zero_le _) (by omega) nI_0.symm hi (fun j hj => hi0 j (by omega)) (fun j hj => absurd hj (Nat.not_lt_zero j)) hP hD hS (lv_sub hl [1, 2, 0] rfl)
      · have hT9 : i < 7 := by
          rcases Nat.lt_or_ge i 7 with q | q
          · exact q
          · exact absurd (by rw [ez]; exact nI_le (a := 7) q (by omega)) hq
        refine lv_aload_n hx hb dX1_init_59 rfl (lv_at hl 0 rfl) ?_
        refine va_get (D := (dC, dI)) (ci := 1) (v := .ref (hh 2)) (C := RX1) (T := TX1) (N := 7) hx hb hts inG_X1 hown hK hP 0 rfl rfl 1 (by decide) (hts _ mg_58) (fun _ h9 => h9) rfl dX1_init_60 ?_
        refine lv_iload_n hx hb dX1_init_63 rfl (lv_at hl 2 rfl) ?_
        refine lv_iconst (v := 1) hx hb dX1_init_64 (by decide) ?_
        have hin9 : vp_in z 7 := by rw [ez]; exact vp_in_nI hT9 (by omega)
        refine va_zast hx hb hK hP hD hS 1 0 rfl rfl hin9 dX1_init_65 (fun H locs hP hD hS => ?_)
        have ec : z.toNatClampNeg = i := by rw [ez]; exact nI_clamp (by omega)
        obtain ⟨σ1, e1⟩ : ∃ f : gS, f = gs_st σ 0 (upd (σ 0) z.toNatClampNeg (vp_nar .boolean 1)) := ⟨_, rfl⟩
        have hP : va_P (dC, dI) vwCl (wS hh kk T σ1) H := by rw [e1]; exact hP
        have hD : va_D A (wS hh kk T σ1) := by rw [e1]; exact hD
        refine lv_iinc (v := z + 1) (lv' := [(2, .int (z + 1)), (0, .ref (hh 1)), (1, .int x1)]) hx hb dX1_init_66 hl (k := 2) rfl rfl (by decide) rfl (fun ls hl => ?_)
        refine lv_goto (tgt := 53) hx hb dX1_init_69 (by decide) ?_
        refine ih (i + 1) (z + 1) σ1 _ _ _ hT9 (by omega) (by rw [ez]; exact nI_1 i) (by rw [e1]; exact hi) (fun j hj => ?_) hP hD hS (lv_sub hl [1, 2, 0] rfl)
        rw [e1, ec]
        show upd (σ 0) i (vp_nar .boolean 1) j = 1
        by_cases hj9 : j = i
        · rw [hj9]; exact pk_us.trans (by decide)
        · rw [pk_un hj9]; exact hi0 j (by omega)
  refine lv_iconst (v := 0) hx hb dX1_init_51 (by decide) ?_
  refine lv_istore_n (lv' := [(2, .int 0), (0, .ref (hh 1)), (1, .int x1)]) hx hb dX1_init_52 rfl hl (by decide) rfl (fun ls hl => ?_)
  exact L53 8 0 0 σ0 _ _ _ (Nat.zero_le _) (by omega) nI_0.symm hi0 (fun j hj => absurd hj (Nat.not_lt_zero j)) hP hD hS (lv_sub hl [1, 2, 0] rfl)
set_option maxHeartbeats 4000000 in
set_option maxRecDepth 100000 in
/-- the reference: nine arrays -/
theorem ci_X3 (l : Launch) (dC : Nat → ClassId) (dI : Nat → Nat → Nat) (a0 : Nat) (sz : Nat) (x1 : Int32) : Met l yX3_init wsX3_init ({ frames := 1, cells := 9, slots := 462, locals := 24 }) (va_Pc [.ref a0, .int x1] (fun U => U.heap.size = sz ∧ va_P (dC, dI) vwCl [(a0, .inr (3, [.int 0, .null, .null, .null, .null, .null, .null, .null, .null, .null, .int 0]))] U.heap ∧ va_K (dC, dI) vwCl [] U ∧ va_D (fun _ => True) [(a0, .inr (3, [.int 0, .null, .null, .null, .null, .null, .null, .null, .null, .null, .int 0]))])) (va_Qv (fun u : gU => u.1 0 = a0 ∧ iniB (gs_T x1) u.2.2) (fun u t => atB dC dI (gs_T x1) (va_A [(a0, .inr (3, [.int 0, .null, .null, .null, .null, .null, .null, .null, .null, .null, .int 0]))] sz) u t) (va_A [(a0, .inr (3, [.int 0, .null, .null, .null, .null, .null, .null, .null, .null, .null, .int 0]))] sz)) 9 462 (va_A [(a0, .inr (3, [.int 0, .null, .null, .null, .null, .null, .null, .null, .null, .null, .int 0]))] sz) := by
  refine Met.ofW (cc := cX3_init) (maxL := 2) (ret := none) (by decide) rfl ?_
  intro p e s m args below meth c s₁ B hml hv
  obtain ⟨rfl, hsz, hP, hK, hD0⟩ := hv
  have hx := B.exec
  have hb := B.bytes
  have hr := B.returns
  have hts : ∀ w ∈ gG, w.before _ s = true := fun w h => atoms_spec (ws := wsX3_init) B.pre w (List.mem_cons_of_mem _ h)
  have hown : s.vm.findClass RX3 = some m.cls := findClass_of_methodNamed B.named
  have hlocks := B.notSynchronized
  have hin : meth.name = "<init>" := (name_of_methodNamed B.named B.method).1
  subst hsz
  have hD := hD0.self (sz := s.heap.size)
  generalize hAe : va_A [(a0, .inr (3, [.int 0, .null, .null, .null, .null, .null, .null, .null, .null, .null, .int 0]))] s.heap.size = A at hD ⊢
  have hA : ∀ q : Nat, s.heap.size ≤ q → A q := fun q h => by rw [← hAe]; exact Or.inr h
  have hS : va_S A s.heap s.heap [] := va_S.rf
  have hl := lv_entry ([.ref a0, .int x1]) (n := 2) (Nat.le_of_ble_eq_true rfl)
  rw [lg_entry_eq]
  generalize (lg_sl ([.ref a0, .int x1]) ++ List.replicate (2 - (lg_sl ([.ref a0, .int x1])).length) Slot.unset).toArray = ls at hl ⊢
  have hl : lv_has ls 2 [(0, .ref a0), (1, .int x1)] := hl
  refine lv_aload_n hx hb dX3_init_0 rfl (lv_at hl 0 rfl) ?_
  refine W.objInit hx hb hown (hts _ mg_364) (hts _ mg_43) (hts _ mg_44) rfl (by rw [hml]; exact hl.1) rfl dX3_init_1 (Nat.le_of_ble_eq_true rfl) (Nat.le_of_ble_eq_true rfl) ?_
  refine W.eq (g2 := F0 m 4 ls []) rfl ?_
  refine lv_aload_n hx hb dX3_init_4 rfl (lv_at hl 0 rfl) ?_
  refine lv_bipush (v := 84) hx hb dX3_init_5 (by decide) ?_
  refine va_newa (atype := .int) (a0 := (84, .inl (fun _ => 0))) (ty := .int) hx hb (hts _ mg_65) rfl hK hP hD hS hA (fun _ => rfl) (by decide) (by decide) (Nat.le_of_ble_eq_true rfl) (Nat.le_of_ble_eq_true rfl) (Nat.le_of_ble_eq_true rfl) dX3_init_7 (fun q1 c0 H hK hP hD hS => ?_)
  have hP : va_P (dC, dI) vwCl [(a0, .inr (3, [.int 0, .null, .null, .null, .null, .null, .null, .null, .null, .null, .int 0])), (q1, .inl (c0, 84, .inl (fun _ => 0)))] H := hP
  have hD : va_D A [(a0, .inr (3, [.int 0, .null, .null, .null, .null, .null, .null, .null, .null, .null, .int 0])), (q1, .inl (c0, 84, .inl (fun _ => 0)))] := hD
  have hK : va_K (dC, dI) vwCl [(c0, .int)] s := hK
  refine W.widen (k := 1) (n := 84) (by omega) (by omega) ?_
  refine va_putF (D := (dC, dI)) (ci := 3) (v := .ref q1) (ty := .array .int) (C := RX3) (T := TX3) (N := 11) hx hb hts inG_X3 tyX3 tyX3_ok nmX3 hown hK hP hD hS 0 rfl rfl 1 (by decide) (hts _ mg_366) (fun _ h9 => h9) rfl hin rfl (by decide +kernel) rfl rfl (Nat.le_of_ble_eq_true rfl) dX3_init_9 (fun H locs hP hD hS => ?_)
  have hP : va_P (dC, dI) vwCl [(a0, .inr (3, [.int 0, .ref q1, .null, .null, .null, .null, .null, .null, .null, .null, .int 0])), (q1, .inl (c0, 84, .inl (fun _ => 0)))] H := hP
  have hD : va_D A [(a0, .inr (3, [.int 0, .ref q1, .null, .null, .null, .null, .null, .null, .null, .null, .int 0])), (q1, .inl (c0, 84, .inl (fun _ => 0)))] := hD
  refine lv_aload_n hx hb dX3_init_12 rfl (lv_at hl 0 rfl) ?_
  refine lv_bipush (v := 84) hx hb dX3_init_13 (by decide) ?_
  refine va_newa (atype := .int) (a0 := (84, .inl (fun _ => 0))) (ty := .int) hx hb (hts _ mg_65) rfl hK hP hD hS hA (fun _ => rfl) (by decide) (by decide) (Nat.le_of_ble_eq_true rfl) (Nat.le_of_ble_eq_true rfl) (Nat.le_of_ble_eq_true rfl) dX3_init_15 (fun q2 c1 H hK hP hD hS => ?_)
  have hP : va_P (dC, dI) vwCl [(a0, .inr (3, [.int 0, .ref q1, .null, .null, .null, .null, .null, .null, .null, .null, .int 0])), (q1, .inl (c0, 84, .inl (fun _ => 0))), (q2, .inl (c1, 84, .inl (fun _ => 0)))] H := hP
  have hD : va_D A [(a0, .inr (3, [.int 0, .ref q1, .null, .null, .null, .null, .null, .null, .null, .null, .int 0])), (q1, .inl (c0, 84, .inl (fun _ => 0))), (q2, .inl (c1, 84, .inl (fun _ => 0)))] := hD
  have hK : va_K (dC, dI) vwCl [(c0, .int), (c1, .int)] s := hK
  refine W.widen (k := 2) (n := 168) (by omega) (by omega) ?_
  refine va_putF (D := (dC, dI)) (ci := 3) (v := .ref q2) (ty := .array .int) (C := RX3) (T := TX3) (N := 11) hx hb hts inG_X3 tyX3 tyX3_ok nmX3 hown hK hP hD hS 0 rfl rfl 2 (by decide) (hts _ mg_367) (fun _ h9 => h9) rfl hin rfl (by decide +kernel) rfl rfl (Nat.le_of_ble_eq_true rfl) dX3_init_17 (fun H locs hP hD hS => ?_)
  have hP : va_P (dC, dI) vwCl [(a0, .inr (3, [.int 0, .ref q1, .ref q2, .null, .null, .null, .null, .null, .null, .null, .int 0])), (q1, .inl (c0, 84, .inl (fun _ => 0))), (q2, .inl (c1, 84, .inl (fun _ => 0)))] H := hP
  have hD : va_D A [(a0, .inr (3, [.int 0, .ref q1, .ref q2, .null, .null, .null, .null, .null, .null, .null, .int 0])), (q1, .inl (c0, 84, .inl (fun _ => 0))), (q2, .inl (c1, 84, .inl (fun _ => 0)))] := hD
  refine lv_aload_n hx hb dX3_init_20 rfl (lv_at hl 0 rfl) ?_
  refine lv_bipush (v := 84) hx hb dX3_init_21 (by decide) ?_
  refine va_newa (atype := .boolean) (a0 := (84, .inl (fun _ => 0))) (ty := .boolean) hx hb (hts _ mg_64) rfl hK hP hD hS hA (fun _ => rfl) (by decide) (by decide) (Nat.le_of_ble_eq_true rfl) (Nat.le_of_ble_eq_true rfl) (Nat.le_of_ble_eq_true rfl) dX3_init_23 (fun q3 c2 H hK hP hD hS => ?_)
  have hP : va_P (dC, dI) vwCl [(a0, .inr (3, [.int 0, .ref q1, .ref q2, .null, .null, .null, .null, .null, .null, .null, .int 0])), (q1, .inl (c0, 84, .inl (fun _ => 0))), (q2, .inl (c1, 84, .inl (fun _ => 0))), (q3, .inl (c2, 84, .inl (fun _ => 0)))] H := hP
  have hD : va_D A [(a0, .inr (3, [.int 0, .ref q1, .ref q2, .null, .null, .null, .null, .null, .null, .null, .int 0])), (q1, .inl (c0, 84, .inl (fun _ => 0))), (q2, .inl (c1, 84, .inl (fun _ => 0))), (q3, .inl (c2, 84, .inl (fun _ => 0)))] := hD
  have hK : va_K (dC, dI) vwCl [(c0, .int), (c1, .int), (c2, .boolean)] s := hK
  refine W.widen (k := 3) (n := 252) (by omega) (by omega) ?_
  refine va_putF (D := (dC, dI)) (ci := 3) (v := .ref q3) (ty := .array .boolean) (C := RX3) (T := TX3) (N := 11) hx hb hts inG_X3 tyX3 tyX3_ok nmX3 hown hK hP hD hS 0 rfl rfl 3 (by decide) (hts _ mg_368) (fun _ h9 => h9) rfl hin rfl (by decide +kernel) rfl rfl (Nat.le_of_ble_eq_true rfl) dX3_init_25 (fun H locs hP hD hS => ?_)
  have hP : va_P (dC, dI) vwCl [(a0, .inr (3, [.int 0, .ref q1, .ref q2, .ref q3, .null, .null, .null, .null, .null, .null, .int 0])), (q1, .inl (c0, 84, .inl (fun _ => 0))), (q2, .inl (c1, 84, .inl (fun _ => 0))), (q3, .inl (c2, 84, .inl (fun _ => 0)))] H := hP
  have hD : va_D A [(a0, .inr (3, [.int 0, .ref q1, .ref q2, .ref q3, .null, .null, .null, .null, .null, .null, .int 0])), (q1, .inl (c0, 84, .inl (fun _ => 0))), (q2, .inl (c1, 84, .inl (fun _ => 0))), (q3, .inl (c2, 84, .inl (fun _ => 0)))] := hD
  refine lv_aload_n hx hb dX3_init_28 rfl (lv_at hl 0 rfl) ?_
  refine lv_bipush (v := 84) hx hb dX3_init_29 (by decide) ?_
  refine va_newa (atype := .boolean) (a0 := (84, .inl (fun _ => 0))) (ty := .boolean) hx hb (hts _ mg_64) rfl hK hP hD hS hA (fun _ => rfl) (by decide) (by decide) (Nat.le_of_ble_eq_true rfl) (Nat.le_of_ble_eq_true rfl) (Nat.le_of_ble_eq_true rfl) dX3_init_31 (fun q4 c3 H hK hP hD hS => ?_)
  have hP : va_P (dC, dI) vwCl [(a0, .inr (3, [.int 0, .ref q1, .ref q2, .ref q3, .null, .null, .null, .null, .null, .null, .int 0])), (q1, .inl (c0, 84, .inl (fun _ => 0))), (q2, .inl (c1, 84, .inl (fun _ => 0))), (q3, .inl (c2, 84, .inl (fun _ => 0))), (q4, .inl (c3, 84, .inl (fun _ => 0)))] H := hP
  have hD : va_D A [(a0, .inr (3, [.int 0, .ref q1, .ref q2, .ref q3, .null, .null, .null, .null, .null, .null, .int 0])), (q1, .inl (c0, 84, .inl (fun _ => 0))), (q2, .inl (c1, 84, .inl (fun _ => 0))), (q3, .inl (c2, 84, .inl (fun _ => 0))), (q4, .inl (c3, 84, .inl (fun _ => 0)))] := hD
  have hK : va_K (dC, dI) vwCl [(c0, .int), (c1, .int), (c2, .boolean), (c3, .boolean)] s := hK
  refine W.widen (k := 4) (n := 336) (by omega) (by omega) ?_
  refine va_putF (D := (dC, dI)) (ci := 3) (v := .ref q4) (ty := .array .boolean) (C := RX3) (T := TX3) (N := 11) hx hb hts inG_X3 tyX3 tyX3_ok nmX3 hown hK hP hD hS 0 rfl rfl 4 (by decide) (hts _ mg_369) (fun _ h9 => h9) rfl hin rfl (by decide +kernel) rfl rfl (Nat.le_of_ble_eq_true rfl) dX3_init_33 (fun H locs hP hD hS => ?_)
  have hP : va_P (dC, dI) vwCl [(a0, .inr (3, [.int 0, .ref q1, .ref q2, .ref q3, .ref q4, .null, .null, .null, .null, .null, .int 0])), (q1, .inl (c0, 84, .inl (fun _ => 0))), (q2, .inl (c1, 84, .inl (fun _ => 0))), (q3, .inl (c2, 84, .inl (fun _ => 0))), (q4, .inl (c3, 84, .inl (fun _ => 0)))] H := hP
  have hD : va_D A [(a0, .inr (3, [.int 0, .ref q1, .ref q2, .ref q3, .ref q4, .null, .null, .null, .null, .null, .int 0])), (q1, .inl (c0, 84, .inl (fun _ => 0))), (q2, .inl (c1, 84, .inl (fun _ => 0))), (q3, .inl (c2, 84, .inl (fun _ => 0))), (q4, .inl (c3, 84, .inl (fun _ => 0)))] := hD
  refine lv_aload_n hx hb dX3_init_36 rfl (lv_at hl 0 rfl) ?_
  refine lv_bipush (v := 7) hx hb dX3_init_37 (by decide) ?_
  refine va_newa (atype := .boolean) (a0 := (7, .inl (fun _ => 0))) (ty := .boolean) hx hb (hts _ mg_64) rfl hK hP hD hS hA (fun _ => rfl) (by decide) (by decide) (Nat.le_of_ble_eq_true rfl) (Nat.le_of_ble_eq_true rfl) (Nat.le_of_ble_eq_true rfl) dX3_init_39 (fun q5 c4 H hK hP hD hS => ?_)
  have hP : va_P (dC, dI) vwCl [(a0, .inr (3, [.int 0, .ref q1, .ref q2, .ref q3, .ref q4, .null, .null, .null, .null, .null, .int 0])), (q1, .inl (c0, 84, .inl (fun _ => 0))), (q2, .inl (c1, 84, .inl (fun _ => 0))), (q3, .inl (c2, 84, .inl (fun _ => 0))), (q4, .inl (c3, 84, .inl (fun _ => 0))), (q5, .inl (c4, 7, .inl (fun _ => 0)))] H := hP
  have hD : va_D A [(a0, .inr (3, [.int 0, .ref q1, .ref q2, .ref q3, .ref q4, .null, .null, .null, .null, .null, .int 0])), (q1, .inl (c0, 84, .inl (fun _ => 0))), (q2, .inl (c1, 84, .inl (fun _ => 0))), (q3, .inl (c2, 84, .inl (fun _ => 0))), (q4, .inl (c3, 84, .inl (fun _ => 0))), (q5, .inl (c4, 7, .inl (fun _ => 0)))] := hD
  have hK : va_K (dC, dI) vwCl [(c0, .int), (c1, .int), (c2, .boolean), (c3, .boolean), (c4, .boolean)] s := hK
  refine W.widen (k := 5) (n := 343) (by omega) (by omega) ?_
  refine va_putF (D := (dC, dI)) (ci := 3) (v := .ref q5) (ty := .array .boolean) (C := RX3) (T := TX3) (N := 11) hx hb hts inG_X3 tyX3 tyX3_ok nmX3 hown hK hP hD hS 0 rfl rfl 5 (by decide) (hts _ mg_370) (fun _ h9 => h9) rfl hin rfl (by decide +kernel) rfl rfl (Nat.le_of_ble_eq_true rfl) dX3_init_41 (fun H locs hP hD hS => ?_)
  have hP : va_P (dC, dI) vwCl [(a0, .inr (3, [.int 0, .ref q1, .ref q2, .ref q3, .ref q4, .ref q5, .null, .null, .null, .null, .int 0])), (q1, .inl (c0, 84, .inl (fun _ => 0))), (q2, .inl (c1, 84, .inl (fun _ => 0))), (q3, .inl (c2, 84, .inl (fun _ => 0))), (q4, .inl (c3, 84, .inl (fun _ => 0))), (q5, .inl (c4, 7, .inl (fun _ => 0)))] H := hP
  have hD : va_D A [(a0, .inr (3, [.int 0, .ref q1, .ref q2, .ref q3, .ref q4, .ref q5, .null, .null, .null, .null, .int 0])), (q1, .inl (c0, 84, .inl (fun _ => 0))), (q2, .inl (c1, 84, .inl (fun _ => 0))), (q3, .inl (c2, 84, .inl (fun _ => 0))), (q4, .inl (c3, 84, .inl (fun _ => 0))), (q5, .inl (c4, 7, .inl (fun _ => 0)))] := hD
  refine lv_aload_n hx hb dX3_init_44 rfl (lv_at hl 0 rfl) ?_
  refine lv_bipush (v := 63) hx hb dX3_init_45 (by decide) ?_
  refine va_newa (atype := .int) (a0 := (63, .inl (fun _ => 0))) (ty := .int) hx hb (hts _ mg_65) rfl hK hP hD hS hA (fun _ => rfl) (by decide) (by decide) (Nat.le_of_ble_eq_true rfl) (Nat.le_of_ble_eq_true rfl) (Nat.le_of_ble_eq_true rfl) dX3_init_47 (fun q6 c5 H hK hP hD hS => ?_)
  have hP : va_P (dC, dI) vwCl [(a0, .inr (3, [.int 0, .ref q1, .ref q2, .ref q3, .ref q4, .ref q5, .null, .null, .null, .null, .int 0])), (q1, .inl (c0, 84, .inl (fun _ => 0))), (q2, .inl (c1, 84, .inl (fun _ => 0))), (q3, .inl (c2, 84, .inl (fun _ => 0))), (q4, .inl (c3, 84, .inl (fun _ => 0))), (q5, .inl (c4, 7, .inl (fun _ => 0))), (q6, .inl (c5, 63, .inl (fun _ => 0)))] H := hP
  have hD : va_D A [(a0, .inr (3, [.int 0, .ref q1, .ref q2, .ref q3, .ref q4, .ref q5, .null, .null, .null, .null, .int 0])), (q1, .inl (c0, 84, .inl (fun _ => 0))), (q2, .inl (c1, 84, .inl (fun _ => 0))), (q3, .inl (c2, 84, .inl (fun _ => 0))), (q4, .inl (c3, 84, .inl (fun _ => 0))), (q5, .inl (c4, 7, .inl (fun _ => 0))), (q6, .inl (c5, 63, .inl (fun _ => 0)))] := hD
  have hK : va_K (dC, dI) vwCl [(c0, .int), (c1, .int), (c2, .boolean), (c3, .boolean), (c4, .boolean), (c5, .int)] s := hK
  refine W.widen (k := 6) (n := 406) (by omega) (by omega) ?_
  refine va_putF (D := (dC, dI)) (ci := 3) (v := .ref q6) (ty := .array .int) (C := RX3) (T := TX3) (N := 11) hx hb hts inG_X3 tyX3 tyX3_ok nmX3 hown hK hP hD hS 0 rfl rfl 6 (by decide) (hts _ mg_371) (fun _ h9 => h9) rfl hin rfl (by decide +kernel) rfl rfl (Nat.le_of_ble_eq_true rfl) dX3_init_49 (fun H locs hP hD hS => ?_)
  have hP : va_P (dC, dI) vwCl [(a0, .inr (3, [.int 0, .ref q1, .ref q2, .ref q3, .ref q4, .ref q5, .ref q6, .null, .null, .null, .int 0])), (q1, .inl (c0, 84, .inl (fun _ => 0))), (q2, .inl (c1, 84, .inl (fun _ => 0))), (q3, .inl (c2, 84, .inl (fun _ => 0))), (q4, .inl (c3, 84, .inl (fun _ => 0))), (q5, .inl (c4, 7, .inl (fun _ => 0))), (q6, .inl (c5, 63, .inl (fun _ => 0)))] H := hP
  have hD : va_D A [(a0, .inr (3, [.int 0, .ref q1, .ref q2, .ref q3, .ref q4, .ref q5, .ref q6, .null, .null, .null, .int 0])), (q1, .inl (c0, 84, .inl (fun _ => 0))), (q2, .inl (c1, 84, .inl (fun _ => 0))), (q3, .inl (c2, 84, .inl (fun _ => 0))), (q4, .inl (c3, 84, .inl (fun _ => 0))), (q5, .inl (c4, 7, .inl (fun _ => 0))), (q6, .inl (c5, 63, .inl (fun _ => 0)))] := hD
  refine lv_aload_n hx hb dX3_init_52 rfl (lv_at hl 0 rfl) ?_
  refine lv_bipush (v := 24) hx hb dX3_init_53 (by decide) ?_
  refine va_newa (atype := .int) (a0 := (24, .inl (fun _ => 0))) (ty := .int) hx hb (hts _ mg_65) rfl hK hP hD hS hA (fun _ => rfl) (by decide) (by decide) (Nat.le_of_ble_eq_true rfl) (Nat.le_of_ble_eq_true rfl) (Nat.le_of_ble_eq_true rfl) dX3_init_55 (fun q7 c6 H hK hP hD hS => ?_)
  have hP : va_P (dC, dI) vwCl [(a0, .inr (3, [.int 0, .ref q1, .ref q2, .ref q3, .ref q4, .ref q5, .ref q6, .null, .null, .null, .int 0])), (q1, .inl (c0, 84, .inl (fun _ => 0))), (q2, .inl (c1, 84, .inl (fun _ => 0))), (q3, .inl (c2, 84, .inl (fun _ => 0))), (q4, .inl (c3, 84, .inl (fun _ => 0))), (q5, .inl (c4, 7, .inl (fun _ => 0))), (q6, .inl (c5, 63, .inl (fun _ => 0))), (q7, .inl (c6, 24, .inl (fun _ => 0)))] H := hP
  have hD : va_D A [(a0, .inr (3, [.int 0, .ref q1, .ref q2, .ref q3, .ref q4, .ref q5, .ref q6, .null, .null, .null, .int 0])), (q1, .inl (c0, 84, .inl (fun _ => 0))), (q2, .inl (c1, 84, .inl (fun _ => 0))), (q3, .inl (c2, 84, .inl (fun _ => 0))), (q4, .inl (c3, 84, .inl (fun _ => 0))), (q5, .inl (c4, 7, .inl (fun _ => 0))), (q6, .inl (c5, 63, .inl (fun _ => 0))), (q7, .inl (c6, 24, .inl (fun _ => 0)))] := hD
  have hK : va_K (dC, dI) vwCl [(c0, .int), (c1, .int), (c2, .boolean), (c3, .boolean), (c4, .boolean), (c5, .int), (c6, .int)] s := hK
  refine W.widen (k := 7) (n := 430) (by omega) (by omega) ?_
  refine va_putF (D := (dC, dI)) (ci := 3) (v := .ref q7) (ty := .array .int) (C := RX3) (T := TX3) (N := 11) hx hb hts inG_X3 tyX3 tyX3_ok nmX3 hown hK hP hD hS 0 rfl rfl 7 (by decide) (hts _ mg_372) (fun _ h9 => h9) rfl hin rfl (by decide +kernel) rfl rfl (Nat.le_of_ble_eq_true rfl) dX3_init_57 (fun H locs hP hD hS => ?_)
  have hP : va_P (dC, dI) vwCl [(a0, .inr (3, [.int 0, .ref q1, .ref q2, .ref q3, .ref q4, .ref q5, .ref q6, .ref q7, .null, .null, .int 0])), (q1, .inl (c0, 84, .inl (fun _ => 0))), (q2, .inl (c1, 84, .inl (fun _ => 0))), (q3, .inl (c2, 84, .inl (fun _ => 0))), (q4, .inl (c3, 84, .inl (fun _ => 0))), (q5, .inl (c4, 7, .inl (fun _ => 0))), (q6, .inl (c5, 63, .inl (fun _ => 0))), (q7, .inl (c6, 24, .inl (fun _ => 0)))] H := hP
  have hD : va_D A [(a0, .inr (3, [.int 0, .ref q1, .ref q2, .ref q3, .ref q4, .ref q5, .ref q6, .ref q7, .null, .null, .int 0])), (q1, .inl (c0, 84, .inl (fun _ => 0))), (q2, .inl (c1, 84, .inl (fun _ => 0))), (q3, .inl (c2, 84, .inl (fun _ => 0))), (q4, .inl (c3, 84, .inl (fun _ => 0))), (q5, .inl (c4, 7, .inl (fun _ => 0))), (q6, .inl (c5, 63, .inl (fun _ => 0))), (q7, .inl (c6, 24, .inl (fun _ => 0)))] := hD
  refine lv_aload_n hx hb dX3_init_60 rfl (lv_at hl 0 rfl) ?_
  refine lv_bipush (v := 24) hx hb dX3_init_61 (by decide) ?_
  refine va_newa (atype := .int) (a0 := (24, .inl (fun _ => 0))) (ty := .int) hx hb (hts _ mg_65) rfl hK hP hD hS hA (fun _ => rfl) (by decide) (by decide) (Nat.le_of_ble_eq_true rfl) (Nat.le_of_ble_eq_true rfl) (Nat.le_of_ble_eq_true rfl) dX3_init_63 (fun q8 c7 H hK hP hD hS => ?_)
  have hP : va_P (dC, dI) vwCl [(a0, .inr (3, [.int 0, .ref q1, .ref q2, .ref q3, .ref q4, .ref q5, .ref q6, .ref q7, .null, .null, .int 0])), (q1, .inl (c0, 84, .inl (fun _ => 0))), (q2, .inl (c1, 84, .inl (fun _ => 0))), (q3, .inl (c2, 84, .inl (fun _ => 0))), (q4, .inl (c3, 84, .inl (fun _ => 0))), (q5, .inl (c4, 7, .inl (fun _ => 0))), (q6, .inl (c5, 63, .inl (fun _ => 0))), (q7, .inl (c6, 24, .inl (fun _ => 0))), (q8, .inl (c7, 24, .inl (fun _ => 0)))] H := hP
  have hD : va_D A [(a0, .inr (3, [.int 0, .ref q1, .ref q2, .ref q3, .ref q4, .ref q5, .ref q6, .ref q7, .null, .null, .int 0])), (q1, .inl (c0, 84, .inl (fun _ => 0))), (q2, .inl (c1, 84, .inl (fun _ => 0))), (q3, .inl (c2, 84, .inl (fun _ => 0))), (q4, .inl (c3, 84, .inl (fun _ => 0))), (q5, .inl (c4, 7, .inl (fun _ => 0))), (q6, .inl (c5, 63, .inl (fun _ => 0))), (q7, .inl (c6, 24, .inl (fun _ => 0))), (q8, .inl (c7, 24, .inl (fun _ => 0)))] := hD
  have hK : va_K (dC, dI) vwCl [(c0, .int), (c1, .int), (c2, .boolean), (c3, .boolean), (c4, .boolean), (c5, .int), (c6, .int), (c7, .int)] s := hK
  refine W.widen (k := 8) (n := 454) (by omega) (by omega) ?_
  refine va_putF (D := (dC, dI)) (ci := 3) (v := .ref q8) (ty := .array .int) (C := RX3) (T := TX3) (N := 11) hx hb hts inG_X3 tyX3 tyX3_ok nmX3 hown hK hP hD hS 0 rfl rfl 8 (by decide) (hts _ mg_373) (fun _ h9 => h9) rfl hin rfl (by decide +kernel) rfl rfl (Nat.le_of_ble_eq_true rfl) dX3_init_65 (fun H locs hP hD hS => ?_)
  have hP : va_P (dC, dI) vwCl [(a0, .inr (3, [.int 0, .ref q1, .ref q2, .ref q3, .ref q4, .ref q5, .ref q6, .ref q7, .ref q8, .null, .int 0])), (q1, .inl (c0, 84, .inl (fun _ => 0))), (q2, .inl (c1, 84, .inl (fun _ => 0))), (q3, .inl (c2, 84, .inl (fun _ => 0))), (q4, .inl (c3, 84, .inl (fun _ => 0))), (q5, .inl (c4, 7, .inl (fun _ => 0))), (q6, .inl (c5, 63, .inl (fun _ => 0))), (q7, .inl (c6, 24, .inl (fun _ => 0))), (q8, .inl (c7, 24, .inl (fun _ => 0)))] H := hP
  have hD : va_D A [(a0, .inr (3, [.int 0, .ref q1, .ref q2, .ref q3, .ref q4, .ref q5, .ref q6, .ref q7, .ref q8, .null, .int 0])), (q1, .inl (c0, 84, .inl (fun _ => 0))), (q2, .inl (c1, 84, .inl (fun _ => 0))), (q3, .inl (c2, 84, .inl (fun _ => 0))), (q4, .inl (c3, 84, .inl (fun _ => 0))), (q5, .inl (c4, 7, .inl (fun _ => 0))), (q6, .inl (c5, 63, .inl (fun _ => 0))), (q7, .inl (c6, 24, .inl (fun _ => 0))), (q8, .inl (c7, 24, .inl (fun _ => 0)))] := hD
  refine lv_aload_n hx hb dX3_init_68 rfl (lv_at hl 0 rfl) ?_
  refine lv_bipush (v := 8) hx hb dX3_init_69 (by decide) ?_
  refine va_newa (atype := .int) (a0 := (8, .inl (fun _ => 0))) (ty := .int) hx hb (hts _ mg_65) rfl hK hP hD hS hA (fun _ => rfl) (by decide) (by decide) (Nat.le_of_ble_eq_true rfl) (Nat.le_of_ble_eq_true rfl) (Nat.le_of_ble_eq_true rfl) dX3_init_71 (fun q9 c8 H hK hP hD hS => ?_)
  have hP : va_P (dC, dI) vwCl [(a0, .inr (3, [.int 0, .ref q1, .ref q2, .ref q3, .ref q4, .ref q5, .ref q6, .ref q7, .ref q8, .null, .int 0])), (q1, .inl (c0, 84, .inl (fun _ => 0))), (q2, .inl (c1, 84, .inl (fun _ => 0))), (q3, .inl (c2, 84, .inl (fun _ => 0))), (q4, .inl (c3, 84, .inl (fun _ => 0))), (q5, .inl (c4, 7, .inl (fun _ => 0))), (q6, .inl (c5, 63, .inl (fun _ => 0))), (q7, .inl (c6, 24, .inl (fun _ => 0))), (q8, .inl (c7, 24, .inl (fun _ => 0))), (q9, .inl (c8, 8, .inl (fun _ => 0)))] H := hP
  have hD : va_D A [(a0, .inr (3, [.int 0, .ref q1, .ref q2, .ref q3, .ref q4, .ref q5, .ref q6, .ref q7, .ref q8, .null, .int 0])), (q1, .inl (c0, 84, .inl (fun _ => 0))), (q2, .inl (c1, 84, .inl (fun _ => 0))), (q3, .inl (c2, 84, .inl (fun _ => 0))), (q4, .inl (c3, 84, .inl (fun _ => 0))), (q5, .inl (c4, 7, .inl (fun _ => 0))), (q6, .inl (c5, 63, .inl (fun _ => 0))), (q7, .inl (c6, 24, .inl (fun _ => 0))), (q8, .inl (c7, 24, .inl (fun _ => 0))), (q9, .inl (c8, 8, .inl (fun _ => 0)))] := hD
  have hK : va_K (dC, dI) vwCl [(c0, .int), (c1, .int), (c2, .boolean), (c3, .boolean), (c4, .boolean), (c5, .int), (c6, .int), (c7, .int), (c8, .int)] s := hK
  refine W.widen (k := 9) (n := 462) (by omega) (by omega) ?_
  refine va_putF (D := (dC, dI)) (ci := 3) (v := .ref q9) (ty := .array .int) (C := RX3) (T := TX3) (N := 11) hx hb hts inG_X3 tyX3 tyX3_ok nmX3 hown hK hP hD hS 0 rfl rfl 9 (by decide) (hts _ mg_374) (fun _ h9 => h9) rfl hin rfl (by decide +kernel) rfl rfl (Nat.le_of_ble_eq_true rfl) dX3_init_73 (fun H locs hP hD hS => ?_)
  have hP : va_P (dC, dI) vwCl [(a0, .inr (3, [.int 0, .ref q1, .ref q2, .ref q3, .ref q4, .ref q5, .ref q6, .ref q7, .ref q8, .ref q9, .int 0])), (q1, .inl (c0, 84, .inl (fun _ => 0))), (q2, .inl (c1, 84, .inl (fun _ => 0))), (q3, .inl (c2, 84, .inl (fun _ => 0))), (q4, .inl (c3, 84, .inl (fun _ => 0))), (q5, .inl (c4, 7, .inl (fun _ => 0))), (q6, .inl (c5, 63, .inl (fun _ => 0))), (q7, .inl (c6, 24, .inl (fun _ => 0))), (q8, .inl (c7, 24, .inl (fun _ => 0))), (q9, .inl (c8, 8, .inl (fun _ => 0)))] H := hP
  have hD : va_D A [(a0, .inr (3, [.int 0, .ref q1, .ref q2, .ref q3, .ref q4, .ref q5, .ref q6, .ref q7, .ref q8, .ref q9, .int 0])), (q1, .inl (c0, 84, .inl (fun _ => 0))), (q2, .inl (c1, 84, .inl (fun _ => 0))), (q3, .inl (c2, 84, .inl (fun _ => 0))), (q4, .inl (c3, 84, .inl (fun _ => 0))), (q5, .inl (c4, 7, .inl (fun _ => 0))), (q6, .inl (c5, 63, .inl (fun _ => 0))), (q7, .inl (c6, 24, .inl (fun _ => 0))), (q8, .inl (c7, 24, .inl (fun _ => 0))), (q9, .inl (c8, 8, .inl (fun _ => 0)))] := hD
  refine lv_aload_n hx hb dX3_init_76 rfl (lv_at hl 0 rfl) ?_
  refine lv_bipush (v := 7) hx hb dX3_init_77 (by decide) ?_
  refine lv_iload_n hx hb dX3_init_79 rfl (lv_at hl 1 rfl) ?_
  refine lv_iconst (v := 1) hx hb dX3_init_80 (by decide) ?_
  refine lv_icmp_ge (tgt := 88) hx hb dX3_init_81 (by decide) (fun hq => ?_) (fun hq => ?_)
  · have hq1 : ¬ x1 < 1 := fun q => by rw [Int32.lt_iff_toInt_lt] at q; rw [Int32.le_iff_toInt_le] at hq; omega
    refine lv_iload_n hx hb dX3_init_88 rfl (lv_at hl 1 rfl) ?_
    refine lv_iconst (v := 3) hx hb dX3_init_89 (by decide) ?_
    refine lv_icmp_le (tgt := 97) hx hb dX3_init_90 (by decide) (fun hp => ?_) (fun hp => ?_)
    · have hp1 : ¬ 3 < x1 := fun q => by rw [Int32.lt_iff_toInt_lt] at q; rw [Int32.le_iff_toInt_le] at hp; omega
      refine lv_iload_n hx hb dX3_init_97 rfl (lv_at hl 1 rfl) ?_
      refine lv_imul hx hb dX3_init_98 ?_
      refine va_putF (D := (dC, dI)) (ci := 3) (v := .int (7 * x1)) (ty := .int) (C := RX3) (T := TX3) (N := 11) hx hb hts inG_X3 tyX3 tyX3_ok nmX3 hown hK hP hD hS 0 rfl rfl 0 (by decide) (hts _ mg_365) (fun _ h9 => h9) rfl hin rfl (by decide +kernel) rfl rfl (Nat.le_of_ble_eq_true rfl) dX3_init_99 (fun H locs hP hD hS => ?_)
      have hP : va_P (dC, dI) vwCl [(a0, .inr (3, [.int (7 * x1), .ref q1, .ref q2, .ref q3, .ref q4, .ref q5, .ref q6, .ref q7, .ref q8, .ref q9, .int 0])), (q1, .inl (c0, 84, .inl (fun _ => 0))), (q2, .inl (c1, 84, .inl (fun _ => 0))), (q3, .inl (c2, 84, .inl (fun _ => 0))), (q4, .inl (c3, 84, .inl (fun _ => 0))), (q5, .inl (c4, 7, .inl (fun _ => 0))), (q6, .inl (c5, 63, .inl (fun _ => 0))), (q7, .inl (c6, 24, .inl (fun _ => 0))), (q8, .inl (c7, 24, .inl (fun _ => 0))), (q9, .inl (c8, 8, .inl (fun _ => 0)))] H := hP
      have hD : va_D A [(a0, .inr (3, [.int (7 * x1), .ref q1, .ref q2, .ref q3, .ref q4, .ref q5, .ref q6, .ref q7, .ref q8, .ref q9, .int 0])), (q1, .inl (c0, 84, .inl (fun _ => 0))), (q2, .inl (c1, 84, .inl (fun _ => 0))), (q3, .inl (c2, 84, .inl (fun _ => 0))), (q4, .inl (c3, 84, .inl (fun _ => 0))), (q5, .inl (c4, 7, .inl (fun _ => 0))), (q6, .inl (c5, 63, .inl (fun _ => 0))), (q7, .inl (c6, 24, .inl (fun _ => 0))), (q8, .inl (c7, 24, .inl (fun _ => 0))), (q9, .inl (c8, 8, .inl (fun _ => 0)))] := hD
      obtain ⟨u, hu⟩ : ∃ u : gU, u = (gk_l [a0, q1, q2, q3, q4, q5, q6, q7, q8, q9], gk_l [c0, c1, c2, c3, c4, c5, c6, c7, c8], gs_st gs_0 0 (fun _ => 7 * x1)) := ⟨_, rfl⟩
      have hP9 : va_P (dC, dI) vwCl (wB u.1 u.2.1 (gs_T x1) u.2.2) H := by rw [hu]; exact hP
      have hD9 : va_D A (wB u.1 u.2.1 (gs_T x1) u.2.2) := by rw [hu]; exact hD
      have hK9 : va_K (dC, dI) vwCl (tB u.2.1) s := by rw [hu]; exact hK
      have hu9 : u.1 0 = a0 ∧ iniB (gs_T x1) u.2.2 := by
        rw [hu]
        refine ⟨rfl, (gs_T_b x1).2.2 hq1 hp1, fun k hk j => ?_⟩
        show (cond (Nat.beq k 0) (fun _ => _) (gs_0 k)) j = 0
        cases k with
        | zero => exact absurd hk (Nat.lt_irrefl 0)
        | succ k => rfl
      exact W.vret hx hb hr (fun t ht hW => ⟨⟨u, rfl, hu9, by rw [ht]; exact hP9, va_K.moved hW.alike hK9, hD9⟩, hS.F ht⟩) hS.2.2 dX3_init_102
    · have hp1 : 3 < x1 := by rw [Int32.lt_iff_toInt_lt]; rw [Int32.le_iff_toInt_le] at hp; omega
      refine lv_iconst (v := 3) hx hb dX3_init_93 (by decide) ?_
      refine lv_goto (tgt := 98) hx hb dX3_init_94 (by decide) ?_
      refine lv_imul hx hb dX3_init_98 ?_
      refine va_putF (D := (dC, dI)) (ci := 3) (v := .int (7 * 3)) (ty := .int) (C := RX3) (T := TX3) (N := 11) hx hb hts inG_X3 tyX3 tyX3_ok nmX3 hown hK hP hD hS 0 rfl rfl 0 (by decide) (hts _ mg_365) (fun _ h9 => h9) rfl hin rfl (by decide +kernel) rfl rfl (Nat.le_of_ble_eq_true rfl) dX3_init_99 (fun H locs hP hD hS => ?_)
      have hP : va_P (dC, dI) vwCl [(a0, .inr (3, [.int (7 * 3), .ref q1, .ref q2, .ref q3, .ref q4, .ref q5, .ref q6, .ref q7, .ref q8, .ref q9, .int 0])), (q1, .inl (c0, 84, .inl (fun _ => 0))), (q2, .inl (c1, 84, .inl (fun _ => 0))), (q3, .inl (c2, 84, .inl (fun _ => 0))), (q4, .inl (c3, 84, .inl (fun _ => 0))), (q5, .inl (c4, 7, .inl (fun _ => 0))), (q6, .inl (c5, 63, .inl (fun _ => 0))), (q7, .inl (c6, 24, .inl (fun _ => 0))), (q8, .inl (c7, 24, .inl (fun _ => 0))), (q9, .inl (c8, 8, .inl (fun _ => 0)))] H := hP
      have hD : va_D A [(a0, .inr (3, [.int (7 * 3), .ref q1, .ref q2, .ref q3, .ref q4, .ref q5, .ref q6, .ref q7, .ref q8, .ref q9, .int 0])), (q1, .inl (c0, 84, .inl (fun _ => 0))), (q2, .inl (c1, 84, .inl (fun _ => 0))), (q3, .inl (c2, 84, .inl (fun _ => 0))), (q4, .inl (c3, 84, .inl (fun _ => 0))), (q5, .inl (c4, 7, .inl (fun _ => 0))), (q6, .inl (c5, 63, .inl (fun _ => 0))), (q7, .inl (c6, 24, .inl (fun _ => 0))), (q8, .inl (c7, 24, .inl (fun _ => 0))), (q9, .inl (c8, 8, .inl (fun _ => 0)))] := hD
      obtain ⟨u, hu⟩ : ∃ u : gU, u = (gk_l [a0, q1, q2, q3, q4, q5, q6, q7, q8, q9], gk_l [c0, c1, c2, c3, c4, c5, c6, c7, c8], gs_st gs_0 0 (fun _ => 7 * 3)) := ⟨_, rfl⟩
      have hP9 : va_P (dC, dI) vwCl (wB u.1 u.2.1 (gs_T x1) u.2.2) H := by rw [hu]; exact hP
      have hD9 : va_D A (wB u.1 u.2.1 (gs_T x1) u.2.2) := by rw [hu]; exact hD
      have hK9 : va_K (dC, dI) vwCl (tB u.2.1) s := by rw [hu]; exact hK
      have hu9 : u.1 0 = a0 ∧ iniB (gs_T x1) u.2.2 := by
        rw [hu]
        refine ⟨rfl, (gs_T_b x1).2.1 hq1 hp1, fun k hk j => ?_⟩
        show (cond (Nat.beq k 0) (fun _ => _) (gs_0 k)) j = 0
        cases k with
        | zero => exact absurd hk (Nat.lt_irrefl 0)
        | succ k => rfl
      exact W.vret hx hb hr (fun t ht hW => ⟨⟨u, rfl, hu9, by rw [ht]; exact hP9, va_K.moved hW.alike hK9, hD9⟩, hS.F ht⟩) hS.2.2 dX3_init_102
  · have hq1 : x1 < 1 := by rw [Int32.lt_iff_toInt_lt]; rw [Int32.le_iff_toInt_le] at hq; omega
    refine lv_iconst (v := 1) hx hb dX3_init_84 (by decide) ?_
    refine lv_goto (tgt := 98) hx hb dX3_init_85 (by decide) ?_
    refine lv_imul hx hb dX3_init_98 ?_
    refine va_putF (D := (dC, dI)) (ci := 3) (v := .int (7 * 1)) (ty := .int) (C := RX3) (T := TX3) (N := 11) hx hb hts inG_X3 tyX3 tyX3_ok nmX3 hown hK hP hD hS 0 rfl rfl 0 (by decide) (hts _ mg_365) (fun _ h9 => h9) rfl hin rfl (by decide +kernel) rfl rfl (Nat.le_of_ble_eq_true rfl) dX3_init_99 (fun H locs hP hD hS => ?_)
    have hP : va_P (dC, dI) vwCl [(a0, .inr (3, [.int (7 * 1), .ref q1, .ref q2, .ref q3, .ref q4, .ref q5, .ref q6, .ref q7, .ref q8, .ref q9, .int 0])), (q1, .inl (c0, 84, .inl (fun _ => 0))), (q2, .inl (c1, 84, .inl (fun _ => 0))), (q3, .inl (c2, 84, .inl (fun _ => 0))), (q4, .inl (c3, 84, .inl (fun _ => 0))), (q5, .inl (c4, 7, .inl (fun _ => 0))), (q6, .inl (c5, 63, .inl (fun _ => 0))), (q7, .inl (c6, 24, .inl (fun _ => 0))), (q8, .inl (c7, 24, .inl (fun _ => 0))), (q9, .inl (c8, 8, .inl (fun _ => 0)))] H := hP
    have hD : va_D A [(a0, .inr (3, [.int (7 * 1), .ref q1, .ref q2, .ref q3, .ref q4, .ref q5, .ref q6, .ref q7, .ref q8, .ref q9, .int 0])), (q1, .inl (c0, 84, .inl (fun _ => 0))), (q2, .inl (c1, 84, .inl (fun _ => 0))), (q3, .inl (c2, 84, .inl (fun _ => 0))), (q4, .inl (c3, 84, .inl (fun _ => 0))), (q5, .inl (c4, 7, .inl (fun _ => 0))), (q6, .inl (c5, 63, .inl (fun _ => 0))), (q7, .inl (c6, 24, .inl (fun _ => 0))), (q8, .inl (c7, 24, .inl (fun _ => 0))), (q9, .inl (c8, 8, .inl (fun _ => 0)))] := hD
    obtain ⟨u, hu⟩ : ∃ u : gU, u = (gk_l [a0, q1, q2, q3, q4, q5, q6, q7, q8, q9], gk_l [c0, c1, c2, c3, c4, c5, c6, c7, c8], gs_st gs_0 0 (fun _ => 7 * 1)) := ⟨_, rfl⟩
    have hP9 : va_P (dC, dI) vwCl (wB u.1 u.2.1 (gs_T x1) u.2.2) H := by rw [hu]; exact hP
    have hD9 : va_D A (wB u.1 u.2.1 (gs_T x1) u.2.2) := by rw [hu]; exact hD
    have hK9 : va_K (dC, dI) vwCl (tB u.2.1) s := by rw [hu]; exact hK
    have hu9 : u.1 0 = a0 ∧ iniB (gs_T x1) u.2.2 := by
      rw [hu]
      refine ⟨rfl, (gs_T_b x1).1 hq1, fun k hk j => ?_⟩
      show (cond (Nat.beq k 0) (fun _ => _) (gs_0 k)) j = 0
      cases k with
      | zero => exact absurd hk (Nat.lt_irrefl 0)
      | succ k => rfl
    exact W.vret hx hb hr (fun t ht hW => ⟨⟨u, rfl, hu9, by rw [ht]; exact hP9, va_K.moved hW.alike hK9, hD9⟩, hS.F ht⟩) hS.2.2 dX3_init_102
set_option maxHeartbeats 4000000 in
set_option maxRecDepth 100000 in
/-- SpreadParity(groups): its stripes and its files -/
theorem ci_X2 (l : Launch) (dC : Nat → ClassId) (dI : Nat → Nat → Nat) (a0 : Nat) (sz : Nat) (x1 : Int32) : Met l yX2_init wsX2_init ({ frames := 2, cells := 12, slots := 419, locals := 60 }) (va_Pc [.ref a0, .int x1] (fun U => U.heap.size = sz ∧ va_P (dC, dI) vwCl [(a0, .inr (2, [.null, .null]))] U.heap ∧ va_K (dC, dI) vwCl [] U ∧ va_D (fun _ => True) [(a0, .inr (2, [.null, .null]))])) (va_Qv (fun u : gU => u.1 0 = a0 ∧ iniS (gs_T x1) u.2.2 ∧ iniF u.2.2) (fun u t => atA dC dI (gs_T x1) (va_A [(a0, .inr (2, [.null, .null]))] sz) u t) (va_A [(a0, .inr (2, [.null, .null]))] sz)) 12 419 (va_A [(a0, .inr (2, [.null, .null]))] sz) := by
  refine Met.ofW (cc := cX2_init) (maxL := 3) (ret := none) (by decide) rfl ?_
  intro p e s m args below meth c s₁ B hml hv
  obtain ⟨rfl, hsz, hP, hK, hD0⟩ := hv
  have hx := B.exec
  have hb := B.bytes
  have hr := B.returns
  have hts : ∀ w ∈ gG, w.before _ s = true := fun w h => atoms_spec (ws := wsX2_init) B.pre w (List.mem_cons_of_mem _ h)
  have hown : s.vm.findClass RX2 = some m.cls := findClass_of_methodNamed B.named
  have hlocks := B.notSynchronized
  have hin : meth.name = "<init>" := (name_of_methodNamed B.named B.method).1
  subst hsz
  have hD := hD0.self (sz := s.heap.size)
  generalize hAe : va_A [(a0, .inr (2, [.null, .null]))] s.heap.size = A at hD ⊢
  have hA : ∀ q : Nat, s.heap.size ≤ q → A q := fun q h => by rw [← hAe]; exact Or.inr h
  have hS : va_S A s.heap s.heap [] := va_S.rf
  have hl := lv_entry ([.ref a0, .int x1]) (n := 3) (Nat.le_of_ble_eq_true rfl)
  rw [lg_entry_eq]
  generalize (lg_sl ([.ref a0, .int x1]) ++ List.replicate (3 - (lg_sl ([.ref a0, .int x1])).length) Slot.unset).toArray = ls at hl ⊢
  have hl : lv_has ls 3 [(0, .ref a0), (1, .int x1)] := hl
  refine lv_aload_n hx hb dX2_init_0 rfl (lv_at hl 0 rfl) ?_
  refine W.objInit hx hb hown (hts _ mg_42) (hts _ mg_43) (hts _ mg_44) rfl (by rw [hml]; exact hl.1) rfl dX2_init_1 (Nat.le_of_ble_eq_true rfl) (Nat.le_of_ble_eq_true rfl) ?_
  refine W.eq (g2 := F0 m 4 ls []) rfl ?_
  refine lv_bipush (v := 7) hx hb dX2_init_4 (by decide) ?_
  refine lv_iconst (v := 1) hx hb dX2_init_6 (by decide) ?_
  refine lv_iconst (v := 3) hx hb dX2_init_7 (by decide) ?_
  refine lv_iload_n hx hb dX2_init_8 rfl (lv_at hl 1 rfl) ?_
  refine va_mmin hx hb (by rw [hml]; exact hl.1.symm) hown (hts _ mg_45) (hts _ mg_46) (hts _ mg_33) (hts _ mg_47) (Nat.le_of_ble_eq_true rfl) (Nat.le_of_ble_eq_true rfl) (Nat.zero_le _) (Nat.zero_le _) dX2_init_9 ?_
  refine va_mmax hx hb (by rw [hml]; exact hl.1.symm) hown (hts _ mg_48) (hts _ mg_49) (hts _ mg_33) (hts _ mg_50) (Nat.le_of_ble_eq_true rfl) (Nat.le_of_ble_eq_true rfl) (Nat.zero_le _) (Nat.zero_le _) dX2_init_12 ?_
  refine lv_imul hx hb dX2_init_15 ?_
  rw [gs_T_a x1]
  have hT : gs_T x1 ≤ 21 := gs_T_le x1
  have hT3 := gs_T_3 x1
  obtain ⟨T, eT⟩ : ∃ T : Nat, T = gs_T x1 := ⟨_, rfl⟩
  rw [← eT] at hT hT3 ⊢
  refine lv_istore_n (lv' := [(2, .int (nI T)), (0, .ref a0), (1, .int x1)]) hx hb dX2_init_16 rfl hl (by decide) rfl (fun ls hl => ?_)
  refine lv_aload_n hx hb dX2_init_17 rfl (lv_at hl 1 rfl) ?_
  refine va_new (ci := 1) (fs := [.int 0, .null, .null, .null, .null, .null, .int 0]) (C := RX1) (T := TX1) (N := 7) hx hb hts inG_X1 tyX1 tyX1_ok hown (hts _ mg_51) (hts _ mg_52) (hts _ mg_34) hK hP hD hS hA rfl (fun j hj => by rcases (show j = 0 ∨ j = 1 ∨ j = 2 ∨ j = 3 ∨ j = 4 ∨ j = 5 ∨ j = 6 by omega) with rfl | rfl | rfl | rfl | rfl | rfl | rfl <;> rfl) (Nat.le_of_ble_eq_true rfl) (Nat.le_of_ble_eq_true rfl) dX2_init_18 (fun q1 H hP hD hS => ?_)
  have hP : va_P (dC, dI) vwCl [(a0, .inr (2, [.null, .null])), (q1, .inr (1, [.int 0, .null, .null, .null, .null, .null, .int 0]))] H := hP
  have hD : va_D A [(a0, .inr (2, [.null, .null])), (q1, .inr (1, [.int 0, .null, .null, .null, .null, .null, .int 0]))] := hD
  refine W.widen (k := 1) (n := 7) (by omega) (by omega) ?_
  refine lv_dup hx hb dX2_init_21 rfl ?_
  refine lv_iload_n hx hb dX2_init_22 rfl (lv_at hl 0 rfl) ?_
  have hPc := hP.sub (ws' := [(q1, .inr (1, [.int 0, .null, .null, .null, .null, .null, .int 0]))]) [1] rfl
  have hDc := hD.sub (ws' := [(q1, .inr (1, [.int 0, .null, .null, .null, .null, .null, .int 0]))]) [1] (by decide) rfl
  have hFc := va_free (wc := [(q1, .inr (1, [.int 0, .null, .null, .null, .null, .null, .int 0]))]) hD hS hA [1] rfl
  refine va_callv (va_runI (As := [.int (nI T)]) (rest := [.ref q1, .ref a0]) ⟨hx, hb, hml, hown, hts⟩ (ci_X1 l dC dI q1 H.size (nI T) T hT rfl) (cwI 1 hts (gd_I mg_55) rfl rfl rfl (hts _ mg_34) (hts _ mg_53) (hts _ mg_54) rfl (by decide +kernel) ⟨Nat.le_of_ble_eq_true rfl, Nat.le_of_ble_eq_true rfl⟩) ⟨fun a U g mk q => by obtain ⟨q0, q1, qP, qK, qD⟩ := q; exact ⟨q0, q1, qP, va_K.moved (u := U) (U := U.calling g mk a) (Vm.Alike.refl U.vm) qK, qD⟩, fun U hU hW => ⟨rfl, by rw [hU], by rw [hU]; exact hPc, va_K.moved hW.alike hK, hDc.weaken (fun _ _ _ _ => trivial)⟩⟩ rfl rfl hl.1 rfl (lv_room (Nat.le_of_ble_eq_true rfl)) dX2_init_23 ⟨Nat.le_of_ble_eq_true rfl, Nat.le_of_ble_eq_true rfl⟩) hS (fun q _ h => hFc q h) hFc (fun u1 t H1 locs ht hvm hw hB hz1 hk1 hS => ?_)
  obtain ⟨h1, k1, σ1⟩ := u1
  obtain ⟨hw1, hw2⟩ := hw
  obtain ⟨hP1, hK1, hD1⟩ := hB
  rw [ht] at hP1
  have hK1 := va_K.moved hvm.symm hK1
  have hw1 : h1 1 = q1 := hw1
  have hw2 : iniS T σ1 := hw2
  obtain ⟨hP, hD⟩ := va_join (wr := [(a0, .inr (2, [.null, .null]))]) (w1 := wS h1 k1 T σ1) hP hD [1] [0] rfl rfl (by decide) (by decide) hk1 hFc hP1 hD1
  have hK : va_K (dC, dI) vwCl (tS k1) s := hK1
  generalize H1 = H at hP hS ⊢
  refine W.widen (k := 6) (n := 287) (by omega) (by omega) ?_
  rw [← hw1]
  have hP : va_P (dC, dI) vwCl ((a0, .inr (2, [.null, .null])) :: wS h1 k1 T σ1) H := hP
  have hD : va_D A ((a0, .inr (2, [.null, .null])) :: wS h1 k1 T σ1) := hD
  refine va_putF (D := (dC, dI)) (ci := 2) (v := .ref (h1 1)) (ty := .object "SpreadParity$Stripes") (C := RX2) (T := TX2) (N := 2) hx hb hts inG_X2 tyX2 tyX2_ok nmX2 hown hK hP hD hS 0 rfl rfl 0 (by decide) (hts _ mg_77) (fun _ h9 => h9) rfl hin rfl (by decide +kernel) rfl rfl (Nat.le_of_ble_eq_true rfl) dX2_init_26 (fun H locs hP hD hS => ?_)
  have hP : va_P (dC, dI) vwCl ((a0, .inr (2, [.ref (h1 1), .null])) :: wS h1 k1 T σ1) H := hP
  have hD : va_D A ((a0, .inr (2, [.ref (h1 1), .null])) :: wS h1 k1 T σ1) := hD
  refine lv_aload_n hx hb dX2_init_29 rfl (lv_at hl 1 rfl) ?_
  refine va_new (ci := 0) (fs := [.null, .null, .null, .null, .null]) (C := RX0) (T := TX0) (N := 5) hx hb hts inG_X0 tyX0 tyX0_ok hown (hts _ mg_66) (hts _ mg_67) (hts _ mg_35) hK hP hD hS hA rfl (fun j hj => by rcases (show j = 0 ∨ j = 1 ∨ j = 2 ∨ j = 3 ∨ j = 4 by omega) with rfl | rfl | rfl | rfl | rfl <;> rfl) (Nat.le_of_ble_eq_true rfl) (Nat.le_of_ble_eq_true rfl) dX2_init_30 (fun q7 H hP hD hS => ?_)
  refine W.widen (k := 7) (n := 292) (by omega) (by omega) ?_
  refine lv_dup hx hb dX2_init_33 rfl ?_
  refine lv_iload_n hx hb dX2_init_34 rfl (lv_at hl 0 rfl) ?_
  refine lv_iconst (v := 3) hx hb dX2_init_35 (by decide) ?_
  refine lv_imul hx hb dX2_init_36 ?_
  have h3T : nI T * 3 = nI (3 * T) := by rw [show (3 : Int32) = nI 3 from rfl, pk_mul, Nat.mul_comm]
  have hPc := hP.sub (ws' := [(q7, .inr (0, [.null, .null, .null, .null, .null]))]) [7] rfl
  have hDc := hD.sub (ws' := [(q7, .inr (0, [.null, .null, .null, .null, .null]))]) [7] (by decide) rfl
  have hKc := hK.sub (tys' := []) [] rfl
  have hFc := va_free (wc := [(q7, .inr (0, [.null, .null, .null, .null, .null]))]) hD hS hA [7] rfl
  refine va_callv (va_runI (As := [.int (nI T * 3)]) (rest := [.ref q7, .ref a0]) ⟨hx, hb, hml, hown, hts⟩ (ci_X0 l dC dI q7 H.size (nI T * 3) T hT h3T) (cwI 1 hts (gd_I mg_70) rfl rfl rfl (hts _ mg_35) (hts _ mg_68) (hts _ mg_69) rfl (by decide +kernel) ⟨Nat.le_of_ble_eq_true rfl, Nat.le_of_ble_eq_true rfl⟩) ⟨fun a U g mk q => by obtain ⟨q0, q1, qP, qK, qD⟩ := q; exact ⟨q0, q1, qP, va_K.moved (u := U) (U := U.calling g mk a) (Vm.Alike.refl U.vm) qK, qD⟩, fun U hU hW => ⟨rfl, by rw [hU], by rw [hU]; exact hPc, va_K.moved hW.alike hKc, hDc.weaken (fun _ _ _ _ => trivial)⟩⟩ rfl rfl hl.1 rfl (lv_room (Nat.le_of_ble_eq_true rfl)) dX2_init_37 ⟨Nat.le_of_ble_eq_true rfl, Nat.le_of_ble_eq_true rfl⟩) hS (fun q _ h => hFc q h) hFc (fun u2 t H1 locs ht hvm hw hB hz1 hk1 hS => ?_)
  obtain ⟨h2, k2, σ2⟩ := u2
  obtain ⟨hv1, hv2⟩ := hw
  obtain ⟨hP1, hK1, hD1⟩ := hB
  rw [ht] at hP1
  have hK1 := va_K.moved hvm.symm hK1
  have hv1 : h2 7 = q7 := hv1
  have hv2 : iniF σ2 := hv2
  obtain ⟨hP, hD⟩ := va_join (wr := (a0, .inr (2, [.ref (h1 1), .null])) :: wS h1 k1 T σ1) (w1 := wF h2 k2 T σ2) hP hD [7] [0, 1, 2, 3, 4, 5, 6] rfl rfl (by decide) (by decide) hk1 hFc hP1 hD1
  have hK : va_K (dC, dI) vwCl (tS k1 ++ tF k2) s := hK.app hK1
  generalize H1 = H at hP hS ⊢
  refine W.widen (k := 12) (n := 419) (by omega) (by omega) ?_
  rw [← hv1]
  refine va_putF (D := (dC, dI)) (ci := 2) (v := .ref (h2 7)) (ty := .object "SpreadParity$FileTable") (C := RX2) (T := TX2) (N := 2) hx hb hts inG_X2 tyX2 tyX2_ok nmX2 hown hK hP hD hS 0 rfl rfl 1 (by decide) (hts _ mg_78) (fun _ h9 => h9) rfl hin rfl (by decide +kernel) rfl rfl (Nat.le_of_ble_eq_true rfl) dX2_init_40 (fun H locs hP hD hS => ?_)
  obtain ⟨u, hu⟩ : ∃ u : gU, u = (gh_c a0 h1 h2, gk_c k1 k2, gs_c σ1 σ2) := ⟨_, rfl⟩
  have hP9 : va_P (dC, dI) vwCl (wA u.1 u.2.1 T u.2.2) H := by rw [hu]; exact hP
  have hD9 : va_D A (wA u.1 u.2.1 T u.2.2) := by rw [hu]; exact hD
  have hK9 : va_K (dC, dI) vwCl (tA u.2.1) s := by rw [hu]; exact hK
  have hu9 : u.1 0 = a0 ∧ iniS T u.2.2 ∧ iniF u.2.2 := by rw [hu]; exact ⟨rfl, hw2, hv2⟩
  exact W.vret hx hb hr (fun t ht hW => ⟨⟨u, rfl, hu9, by rw [ht]; exact hP9, va_K.moved hW.alike hK9, hD9⟩, hS.F ht⟩) hS.2.2 dX2_init_43
