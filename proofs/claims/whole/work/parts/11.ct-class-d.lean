set_option maxHeartbeats 4000000 in
set_option maxRecDepth 100000 in
theorem ct_X1_putIn (l : Launch) (dC : Nat → ClassId) (dI : Nat → Nat → Nat) (h : Nat → Nat) (k : Nat → ClassId) (T : Nat) (σ : gS) (sz : Nat) (x1 : Int32) (y : Int32 × gS) (hf : fn_X1_putIn T x1 σ = some y) : Met l yX1_putIn wsX1_putIn ({ frames := 0, cells := 0, slots := 0, locals := 0 }) (va_Pc [.ref (h 1), .int x1] (uPre (dC, dI) vwCl (tA k) (wA h k T) zA σ sz)) (va_Qv (fun u => u = y.2) (uAt (dC, dI) vwCl (tA k) (wA h k T) (va_A (wA h k T σ) sz)) (va_A (wA h k T σ) sz)) 0 0 (va_A (wA h k T σ) sz) := by
  refine Met.ofW (cc := cX1_putIn) (maxL := 2) (ret := none) (by decide) rfl ?_
  intro p e s m args below meth c s₁ B hml hv
  obtain ⟨rfl, hsz, hP, hK, hD0, hZ⟩ := hv
  have hx := B.exec
  have hb := B.bytes
  have hr := B.returns
  have hts : ∀ w ∈ gG, w.before _ s = true := fun w h => atoms_spec (ws := wsX1_putIn) B.pre w (List.mem_cons_of_mem _ h)
  have hown : s.vm.findClass RX1 = some m.cls := findClass_of_methodNamed B.named
  have hlocks := B.notSynchronized
  subst hsz
  have hD := hD0.self (sz := s.heap.size)
  generalize hAe : va_A (wA h k T σ) s.heap.size = A at hD hZ ⊢
  have hA : ∀ q : Nat, s.heap.size ≤ q → A q := fun q h => by rw [← hAe]; exact Or.inr h
  have hS : va_S A s.heap s.heap [] := va_S.rf
  obtain ⟨t0, hZ0, hT0, hN0⟩ := id hZ
  have hl := lv_entry ([.ref (h 1), .int x1]) (n := 2) (Nat.le_of_ble_eq_true rfl)
  rw [lg_entry_eq]
  generalize (lg_sl ([.ref (h 1), .int x1]) ++ List.replicate (2 - (lg_sl ([.ref (h 1), .int x1])).length) Slot.unset).toArray = ls at hl ⊢
  have hl : lv_has ls 2 [(0, .ref (h 1)), (1, .int x1)] := hl
  rw [fn_X1_putIn] at hf
  refine lv_aload_n hx hb dX1_putIn_0 rfl (lv_at hl 0 rfl) ?_
  refine va_get (D := (dC, dI)) (ci := 1) (v := .ref (h 2)) (C := RX1) (T := TX1) (N := 7) hx hb hts inG_X1 hown hK hP 1 rfl rfl 1 (by decide) (hts _ mg_58) (fun _ h9 => h9) rfl dX1_putIn_1 ?_
  refine lv_iload_n hx hb dX1_putIn_4 rfl (lv_at hl 1 rfl) ?_
  refine lv_iconst (v := 1) hx hb dX1_putIn_5 (by decide) ?_
  obtain ⟨hin, hf⟩ := gs_gd_e hf
  refine va_zast hx hb hK hP hD hS 2 0 rfl rfl hin dX1_putIn_6 (fun H locs hP hD hS => ?_)
  obtain ⟨σ1, es, hf⟩ := gs_lt_e hf
  have hP : va_P (dC, dI) vwCl (wA h k T σ1) H := by rw [es]; exact hP
  have hD : va_D A (wA h k T σ1) := by rw [es]; exact hD
  clear es
  exact W.vret hx hb hr (fun t ht hW => u_rv (Option.some.inj hf) ht hW hP hK hD hS) hS.2.2 dX1_putIn_7
set_option maxHeartbeats 4000000 in
set_option maxRecDepth 100000 in
theorem ct_X2_replace (l : Launch) (dC : Nat → ClassId) (dI : Nat → Nat → Nat) (h : Nat → Nat) (k : Nat → ClassId) (T : Nat) (σ : gS) (sz : Nat) (x1 : Int32) (y : Int32 × gS) (hf : fn_X2_replace T x1 σ = some y) : Met l yX2_replace wsX2_replace ({ frames := 1, cells := 0, slots := 0, locals := 21 }) (va_Pc [.ref (h 0), .int x1] (uPre (dC, dI) vwCl (tA k) (wA h k T) zA σ sz)) (va_Qi (fun r u => (r, u) = y) (uAt (dC, dI) vwCl (tA k) (wA h k T) (va_A (wA h k T σ) sz)) (va_A (wA h k T σ) sz)) 0 0 (va_A (wA h k T σ) sz) := by
  refine Met.ofW (cc := cX2_replace) (maxL := 2) (ret := (some .int)) (by decide) rfl ?_
  intro p e s m args below meth c s₁ B hml hv
  obtain ⟨rfl, hsz, hP, hK, hD0, hZ⟩ := hv
  have hx := B.exec
  have hb := B.bytes
  have hr := B.returns
  have hts : ∀ w ∈ gG, w.before _ s = true := fun w h => atoms_spec (ws := wsX2_replace) B.pre w (List.mem_cons_of_mem _ h)
  have hown : s.vm.findClass RX2 = some m.cls := findClass_of_methodNamed B.named
  have hlocks := B.notSynchronized
  subst hsz
  have hD := hD0.self (sz := s.heap.size)
  generalize hAe : va_A (wA h k T σ) s.heap.size = A at hD hZ ⊢
  have hA : ∀ q : Nat, s.heap.size ≤ q → A q := fun q h => by rw [← hAe]; exact Or.inr h
  have hS : va_S A s.heap s.heap [] := va_S.rf
  obtain ⟨t0, hZ0, hT0, hN0⟩ := id hZ
  have hl := lv_entry ([.ref (h 0), .int x1]) (n := 2) (Nat.le_of_ble_eq_true rfl)
  rw [lg_entry_eq]
  generalize (lg_sl ([.ref (h 0), .int x1]) ++ List.replicate (2 - (lg_sl ([.ref (h 0), .int x1])).length) Slot.unset).toArray = ls at hl ⊢
  have hl : lv_has ls 2 [(0, .ref (h 0)), (1, .int x1)] := hl
  rw [fn_X2_replace] at hf
  refine lv_iload_n hx hb dX2_replace_0 rfl (lv_at hl 1 rfl) ?_
  obtain ⟨r1, σ2, hc, hf⟩ := gs_ob_e hf
  have hF := u_free hD hS hA
  refine u_calli (va_runS (As := [.int x1]) (rest := []) ⟨hx, hb, hml, hown, hts⟩ (ct_X2_isDisk l dC dI h k T σ s.heap.size x1 _ hc) (va_cwS 1 hts (gd_S mg_210 mg_211 mg_32 mg_212) rfl rfl rfl (by decide +kernel) ⟨Nat.le_of_ble_eq_true rfl, Nat.le_of_ble_eq_true rfl⟩) (u_preS zA_g hK hP hD hS hF hZ) rfl rfl hl.1 rfl (lv_room (Nat.le_of_ble_eq_true rfl)) dX2_replace_1 ⟨Nat.le_refl _, Nat.le_refl _⟩) hS hF (fun H locs hP hD hS => ?_)
  refine lv_if_eq (tgt := 18) hx hb dX2_replace_4 (by decide) (fun hq => ?_) (fun hq => ?_)
  · have hf := gs_t hf hq
    refine lv_iconst (v := (-1)) hx hb dX2_replace_18 (by decide) ?_
    exact W.iret (v := (-1)) hx hb hr (fun t ht hW => u_ri (Option.some.inj hf) ht hW hP hK hD hS) hS.2.2 dX2_replace_19
  · have hf := gs_f hf hq
    refine lv_aload_n hx hb dX2_replace_7 rfl (lv_at hl 0 rfl) ?_
    refine va_get (D := (dC, dI)) (ci := 2) (v := .ref (h 1)) (C := RX2) (T := TX2) (N := 2) hx hb hts inG_X2 hown hK hP 0 rfl rfl 0 (by decide) (hts _ mg_77) (fun _ h9 => h9) rfl dX2_replace_8 ?_
    refine lv_iload_n hx hb dX2_replace_11 rfl (lv_at hl 1 rfl) ?_
    obtain ⟨r3, σ4, hc, hf⟩ := gs_ob_e hf
    have hF := u_free hD hS hA
    refine u_calli (va_runV (As := [.int x1]) (rest := []) ⟨hx, hb, hml, hown, hts⟩ (ct_X1_isPresent l dC dI h k T σ2 H.size x1 _ hc) (cwV 1 hts (gd_V mg_213 mg_214 mg_215 mg_34 mg_216) rfl rfl rfl (by decide +kernel) ⟨Nat.le_of_ble_eq_true rfl, Nat.le_of_ble_eq_true rfl⟩) (u_preV zA_g hK hP hD hS hF hZ (va_recv hK hP (ci := 1) (q0 := 1) rfl rfl)) rfl rfl hl.1 rfl (lv_room (Nat.le_of_ble_eq_true rfl)) dX2_replace_12 ⟨Nat.le_refl _, Nat.le_refl _⟩) hS hF (fun H locs hP hD hS => ?_)
    refine lv_if_eq (tgt := 20) hx hb dX2_replace_15 (by decide) (fun hq => ?_) (fun hq => ?_)
    · have hf := gs_t hf hq
      refine lv_aload_n hx hb dX2_replace_20 rfl (lv_at hl 0 rfl) ?_
      refine va_get (D := (dC, dI)) (ci := 2) (v := .ref (h 1)) (C := RX2) (T := TX2) (N := 2) hx hb hts inG_X2 hown hK hP 0 rfl rfl 0 (by decide) (hts _ mg_77) (fun _ h9 => h9) rfl dX2_replace_21 ?_
      refine lv_iload_n hx hb dX2_replace_24 rfl (lv_at hl 1 rfl) ?_
      obtain ⟨r5, σ6, hc, hf⟩ := gs_ob_e hf
      have hF := u_free hD hS hA
      refine u_callv (va_runV (As := [.int x1]) (rest := []) ⟨hx, hb, hml, hown, hts⟩ (ct_X1_putIn l dC dI h k T σ4 H.size x1 _ hc) (cwV 1 hts (gd_V mg_237 mg_238 mg_239 mg_34 mg_240) rfl rfl rfl (by decide +kernel) ⟨Nat.le_of_ble_eq_true rfl, Nat.le_of_ble_eq_true rfl⟩) (u_preV zA_g hK hP hD hS hF hZ (va_recv hK hP (ci := 1) (q0 := 1) rfl rfl)) rfl rfl hl.1 rfl (lv_room (Nat.le_of_ble_eq_true rfl)) dX2_replace_25 ⟨Nat.le_refl _, Nat.le_refl _⟩) hS hF (fun H locs hP hD hS => ?_)
      refine lv_iconst (v := 0) hx hb dX2_replace_28 (by decide) ?_
      exact W.iret (v := 0) hx hb hr (fun t ht hW => u_ri (Option.some.inj hf) ht hW hP hK hD hS) hS.2.2 dX2_replace_29
    · have hf := gs_f hf hq
      refine lv_iconst (v := (-1)) hx hb dX2_replace_18 (by decide) ?_
      exact W.iret (v := (-1)) hx hb hr (fun t ht hW => u_ri (Option.some.inj hf) ht hW hP hK hD hS) hS.2.2 dX2_replace_19
set_option maxHeartbeats 4000000 in
set_option maxRecDepth 100000 in
theorem ct_X1_isStripe (l : Launch) (dC : Nat → ClassId) (dI : Nat → Nat → Nat) (h : Nat → Nat) (k : Nat → ClassId) (T : Nat) (σ : gS) (sz : Nat) (x1 : Int32) (y : Int32 × gS) (hf : fn_X1_isStripe T x1 σ = some y) : Met l yX1_isStripe wsX1_isStripe ({ frames := 0, cells := 0, slots := 0, locals := 0 }) (va_Pc [.ref (h 1), .int x1] (uPre (dC, dI) vwCl (tA k) (wA h k T) zA σ sz)) (va_Qi (fun r u => (r, u) = y) (uAt (dC, dI) vwCl (tA k) (wA h k T) (va_A (wA h k T σ) sz)) (va_A (wA h k T σ) sz)) 0 0 (va_A (wA h k T σ) sz) := by
  refine Met.ofW (cc := cX1_isStripe) (maxL := 2) (ret := (some .boolean)) (by decide) rfl ?_
  intro p e s m args below meth c s₁ B hml hv
  obtain ⟨rfl, hsz, hP, hK, hD0, hZ⟩ := hv
  have hx := B.exec
  have hb := B.bytes
  have hr := B.returns
  have hts : ∀ w ∈ gG, w.before _ s = true := fun w h => atoms_spec (ws := wsX1_isStripe) B.pre w (List.mem_cons_of_mem _ h)
  have hown : s.vm.findClass RX1 = some m.cls := findClass_of_methodNamed B.named
  have hlocks := B.notSynchronized
  subst hsz
  have hD := hD0.self (sz := s.heap.size)
  generalize hAe : va_A (wA h k T σ) s.heap.size = A at hD hZ ⊢
  have hA : ∀ q : Nat, s.heap.size ≤ q → A q := fun q h => by rw [← hAe]; exact Or.inr h
  have hS : va_S A s.heap s.heap [] := va_S.rf
  obtain ⟨t0, hZ0, hT0, hN0⟩ := id hZ
  have hl := lv_entry ([.ref (h 1), .int x1]) (n := 2) (Nat.le_of_ble_eq_true rfl)
  rw [lg_entry_eq]
  generalize (lg_sl ([.ref (h 1), .int x1]) ++ List.replicate (2 - (lg_sl ([.ref (h 1), .int x1])).length) Slot.unset).toArray = ls at hl ⊢
  have hl : lv_has ls 2 [(0, .ref (h 1)), (1, .int x1)] := hl
  rw [fn_X1_isStripe] at hf
  refine lv_iload_n hx hb dX1_isStripe_0 rfl (lv_at hl 1 rfl) ?_
  refine lv_if_lt (tgt := 16) hx hb dX1_isStripe_1 (by decide) (fun hq => ?_) (fun hq => ?_)
  · have hf := gs_t hf hq
    refine lv_iconst (v := 0) hx hb dX1_isStripe_16 (by decide) ?_
    exact W.zret (v := 0) (ty := .boolean) hx hb hr rfl (fun t ht hW => u_ri (Option.some.inj hf) ht hW hP hK hD hS) hS.2.2 dX1_isStripe_17
  · have hf := gs_f hf hq
    refine lv_iload_n hx hb dX1_isStripe_4 rfl (lv_at hl 1 rfl) ?_
    refine lv_aload_n hx hb dX1_isStripe_5 rfl (lv_at hl 0 rfl) ?_
    refine va_get (D := (dC, dI)) (ci := 1) (v := .int (σ 6 0)) (C := RX1) (T := TX1) (N := 7) hx hb hts inG_X1 hown hK hP 1 rfl rfl 0 (by decide) (hts _ mg_57) (fun _ h9 => h9) rfl dX1_isStripe_6 ?_
    refine lv_icmp_ge (tgt := 16) hx hb dX1_isStripe_9 (by decide) (fun hq => ?_) (fun hq => ?_)
    · have hf := gs_t hf hq
      refine lv_iconst (v := 0) hx hb dX1_isStripe_16 (by decide) ?_
      exact W.zret (v := 0) (ty := .boolean) hx hb hr rfl (fun t ht hW => u_ri (Option.some.inj hf) ht hW hP hK hD hS) hS.2.2 dX1_isStripe_17
    · have hf := gs_f hf hq
      refine lv_iconst (v := 1) hx hb dX1_isStripe_12 (by decide) ?_
      refine lv_goto (tgt := 17) hx hb dX1_isStripe_13 (by decide) ?_
      exact W.zret (v := 1) (ty := .boolean) hx hb hr rfl (fun t ht hW => u_ri (Option.some.inj hf) ht hW hP hK hD hS) hS.2.2 dX1_isStripe_17
set_option maxHeartbeats 4000000 in
set_option maxRecDepth 100000 in
theorem ct_X2_isColumn (l : Launch) (dC : Nat → ClassId) (dI : Nat → Nat → Nat) (h : Nat → Nat) (k : Nat → ClassId) (T : Nat) (σ : gS) (sz : Nat) (x0 : Int32) (y : Int32 × gS) (hf : fn_X2_isColumn T x0 σ = some y) : Met l yX2_isColumn wsX2_isColumn ({ frames := 0, cells := 0, slots := 0, locals := 0 }) (va_Pc [.int x0] (uPre (dC, dI) vwCl (tA k) (wA h k T) zA σ sz)) (va_Qi (fun r u => (r, u) = y) (uAt (dC, dI) vwCl (tA k) (wA h k T) (va_A (wA h k T σ) sz)) (va_A (wA h k T σ) sz)) 0 0 (va_A (wA h k T σ) sz) := by
  refine Met.ofW (cc := cX2_isColumn) (maxL := 1) (ret := (some .boolean)) (by decide) rfl ?_
  intro p e s m args below meth c s₁ B hml hv
  obtain ⟨rfl, hsz, hP, hK, hD0, hZ⟩ := hv
  have hx := B.exec
  have hb := B.bytes
  have hr := B.returns
  have hts : ∀ w ∈ gG, w.before _ s = true := fun w h => atoms_spec (ws := wsX2_isColumn) B.pre w (List.mem_cons_of_mem _ h)
  have hown : s.vm.findClass RX2 = some m.cls := findClass_of_methodNamed B.named
  have hlocks := B.notSynchronized
  subst hsz
  have hD := hD0.self (sz := s.heap.size)
  generalize hAe : va_A (wA h k T σ) s.heap.size = A at hD hZ ⊢
  have hA : ∀ q : Nat, s.heap.size ≤ q → A q := fun q h => by rw [← hAe]; exact Or.inr h
  have hS : va_S A s.heap s.heap [] := va_S.rf
  obtain ⟨t0, hZ0, hT0, hN0⟩ := id hZ
  have hl := lv_entry ([.int x0]) (n := 1) (Nat.le_of_ble_eq_true rfl)
  rw [lg_entry_eq]
  generalize (lg_sl ([.int x0]) ++ List.replicate (1 - (lg_sl ([.int x0])).length) Slot.unset).toArray = ls at hl ⊢
  have hl : lv_has ls 1 [(0, .int x0)] := hl
  rw [fn_X2_isColumn] at hf
  refine lv_iload_n hx hb dX2_isColumn_0 rfl (lv_at hl 0 rfl) ?_
  refine lv_if_lt (tgt := 13) hx hb dX2_isColumn_1 (by decide) (fun hq => ?_) (fun hq => ?_)
  · have hf := gs_t hf hq
    refine lv_iconst (v := 0) hx hb dX2_isColumn_13 (by decide) ?_
    exact W.zret (v := 0) (ty := .boolean) hx hb hr rfl (fun t ht hW => u_ri (Option.some.inj hf) ht hW hP hK hD hS) hS.2.2 dX2_isColumn_14
  · have hf := gs_f hf hq
    refine lv_iload_n hx hb dX2_isColumn_4 rfl (lv_at hl 0 rfl) ?_
    refine lv_iconst (v := 4) hx hb dX2_isColumn_5 (by decide) ?_
    refine lv_icmp_ge (tgt := 13) hx hb dX2_isColumn_6 (by decide) (fun hq => ?_) (fun hq => ?_)
    · have hf := gs_t hf hq
      refine lv_iconst (v := 0) hx hb dX2_isColumn_13 (by decide) ?_
      exact W.zret (v := 0) (ty := .boolean) hx hb hr rfl (fun t ht hW => u_ri (Option.some.inj hf) ht hW hP hK hD hS) hS.2.2 dX2_isColumn_14
    · have hf := gs_f hf hq
      refine lv_iconst (v := 1) hx hb dX2_isColumn_9 (by decide) ?_
      refine lv_goto (tgt := 14) hx hb dX2_isColumn_10 (by decide) ?_
      exact W.zret (v := 1) (ty := .boolean) hx hb hr rfl (fun t ht hW => u_ri (Option.some.inj hf) ht hW hP hK hD hS) hS.2.2 dX2_isColumn_14
set_option maxHeartbeats 4000000 in
set_option maxRecDepth 100000 in
theorem ct_X1_flip (l : Launch) (dC : Nat → ClassId) (dI : Nat → Nat → Nat) (h : Nat → Nat) (k : Nat → ClassId) (T : Nat) (σ : gS) (sz : Nat) (x1 : Int32) (x2 : Int32) (x3 : Int32) (y : Int32 × gS) (hf : fn_X1_flip T x1 x2 x3 σ = some y) : Met l yX1_flip wsX1_flip ({ frames := 1, cells := 0, slots := 0, locals := 21 }) (va_Pc [.ref (h 1), .int x1, .int x2, .int x3] (uPre (dC, dI) vwCl (tA k) (wA h k T) zA σ sz)) (va_Qv (fun u => u = y.2) (uAt (dC, dI) vwCl (tA k) (wA h k T) (va_A (wA h k T σ) sz)) (va_A (wA h k T σ) sz)) 0 0 (va_A (wA h k T σ) sz) := by
  refine Met.ofW (cc := cX1_flip) (maxL := 4) (ret := none) (by decide) rfl ?_
  intro p e s m args below meth c s₁ B hml hv
  obtain ⟨rfl, hsz, hP, hK, hD0, hZ⟩ := hv
  have hx := B.exec
  have hb := B.bytes
  have hr := B.returns
  have hts : ∀ w ∈ gG, w.before _ s = true := fun w h => atoms_spec (ws := wsX1_flip) B.pre w (List.mem_cons_of_mem _ h)
  have hown : s.vm.findClass RX1 = some m.cls := findClass_of_methodNamed B.named
  have hlocks := B.notSynchronized
  subst hsz
  have hD := hD0.self (sz := s.heap.size)
  generalize hAe : va_A (wA h k T σ) s.heap.size = A at hD hZ ⊢
  have hA : ∀ q : Nat, s.heap.size ≤ q → A q := fun q h => by rw [← hAe]; exact Or.inr h
  have hS : va_S A s.heap s.heap [] := va_S.rf
  obtain ⟨t0, hZ0, hT0, hN0⟩ := id hZ
  have hl := lv_entry ([.ref (h 1), .int x1, .int x2, .int x3]) (n := 4) (Nat.le_of_ble_eq_true rfl)
  rw [lg_entry_eq]
  generalize (lg_sl ([.ref (h 1), .int x1, .int x2, .int x3]) ++ List.replicate (4 - (lg_sl ([.ref (h 1), .int x1, .int x2, .int x3])).length) Slot.unset).toArray = ls at hl ⊢
  have hl : lv_has ls 4 [(0, .ref (h 1)), (1, .int x1), (2, .int x2), (3, .int x3)] := hl
  rw [fn_X1_flip] at hf
  refine lv_aload_n hx hb dX1_flip_0 rfl (lv_at hl 0 rfl) ?_
  refine va_get (D := (dC, dI)) (ci := 1) (v := .ref (h 4)) (C := RX1) (T := TX1) (N := 7) hx hb hts inG_X1 hown hK hP 1 rfl rfl 3 (by decide) (hts _ mg_60) (fun _ h9 => h9) rfl dX1_flip_1 ?_
  refine lv_iload_n hx hb dX1_flip_4 rfl (lv_at hl 1 rfl) ?_
  refine lv_iload_n hx hb dX1_flip_5 rfl (lv_at hl 2 rfl) ?_
  obtain ⟨r1, σ2, hc, hf⟩ := gs_ob_e hf
  have hF := u_free hD hS hA
  refine u_calli (va_runS (As := [.int x1, .int x2]) (rest := [.ref (h 4)]) ⟨hx, hb, hml, hown, hts⟩ (ct_X1_place l dC dI h k T σ s.heap.size x1 x2 _ hc) (va_cwS 2 hts (gd_S mg_164 mg_165 mg_34 mg_166) rfl rfl rfl (by decide +kernel) ⟨Nat.le_of_ble_eq_true rfl, Nat.le_of_ble_eq_true rfl⟩) (u_preS zA_g hK hP hD hS hF hZ) rfl rfl hl.1 rfl (lv_room (Nat.le_of_ble_eq_true rfl)) dX1_flip_6 ⟨Nat.le_refl _, Nat.le_refl _⟩) hS hF (fun H locs hP hD hS => ?_)
  refine lv_dup2_11 hx hb dX1_flip_9 rfl rfl ?_
  obtain ⟨hin, hf⟩ := gs_gd_e hf
  refine va_iald hx hb hK hP 4 2 rfl rfl hin dX1_flip_10 ?_
  refine lv_iload_n hx hb dX1_flip_11 rfl (lv_at hl 3 rfl) ?_
  refine lv_ixor hx hb dX1_flip_12 ?_
  obtain ⟨hin, hf⟩ := gs_gd_e hf
  refine va_iast hx hb hK hP hD hS 4 2 rfl rfl hin dX1_flip_13 (fun H locs hP hD hS => ?_)
  obtain ⟨σ3, es, hf⟩ := gs_lt_e hf
  have hP : va_P (dC, dI) vwCl (wA h k T σ3) H := by rw [es]; exact hP
  have hD : va_D A (wA h k T σ3) := by rw [es]; exact hD
  clear es
  exact W.vret hx hb hr (fun t ht hW => u_rv (Option.some.inj hf) ht hW hP hK hD hS) hS.2.2 dX1_flip_14
set_option maxHeartbeats 4000000 in
set_option maxRecDepth 100000 in
theorem ct_X2_alter (l : Launch) (dC : Nat → ClassId) (dI : Nat → Nat → Nat) (h : Nat → Nat) (k : Nat → ClassId) (T : Nat) (σ : gS) (sz : Nat) (x1 : Int32) (x2 : Int32) (x3 : Int32) (y : Int32 × gS) (hf : fn_X2_alter T x1 x2 x3 σ = some y) : Met l yX2_alter wsX2_alter ({ frames := 2, cells := 0, slots := 0, locals := 44 }) (va_Pc [.ref (h 0), .int x1, .int x2, .int x3] (uPre (dC, dI) vwCl (tA k) (wA h k T) zA σ sz)) (va_Qi (fun r u => (r, u) = y) (uAt (dC, dI) vwCl (tA k) (wA h k T) (va_A (wA h k T σ) sz)) (va_A (wA h k T σ) sz)) 0 0 (va_A (wA h k T σ) sz) := by
  refine Met.ofW (cc := cX2_alter) (maxL := 4) (ret := (some .int)) (by decide) rfl ?_
  intro p e s m args below meth c s₁ B hml hv
  obtain ⟨rfl, hsz, hP, hK, hD0, hZ⟩ := hv
  have hx := B.exec
  have hb := B.bytes
  have hr := B.returns
  have hts : ∀ w ∈ gG, w.before _ s = true := fun w h => atoms_spec (ws := wsX2_alter) B.pre w (List.mem_cons_of_mem _ h)
  have hown : s.vm.findClass RX2 = some m.cls := findClass_of_methodNamed B.named
  have hlocks := B.notSynchronized
  subst hsz
  have hD := hD0.self (sz := s.heap.size)
  generalize hAe : va_A (wA h k T σ) s.heap.size = A at hD hZ ⊢
  have hA : ∀ q : Nat, s.heap.size ≤ q → A q := fun q h => by rw [← hAe]; exact Or.inr h
  have hS : va_S A s.heap s.heap [] := va_S.rf
  obtain ⟨t0, hZ0, hT0, hN0⟩ := id hZ
  have hl := lv_entry ([.ref (h 0), .int x1, .int x2, .int x3]) (n := 4) (Nat.le_of_ble_eq_true rfl)
  rw [lg_entry_eq]
  generalize (lg_sl ([.ref (h 0), .int x1, .int x2, .int x3]) ++ List.replicate (4 - (lg_sl ([.ref (h 0), .int x1, .int x2, .int x3])).length) Slot.unset).toArray = ls at hl ⊢
  have hl : lv_has ls 4 [(0, .ref (h 0)), (1, .int x1), (2, .int x2), (3, .int x3)] := hl
  rw [fn_X2_alter] at hf
  refine lv_aload_n hx hb dX2_alter_0 rfl (lv_at hl 0 rfl) ?_
  refine va_get (D := (dC, dI)) (ci := 2) (v := .ref (h 1)) (C := RX2) (T := TX2) (N := 2) hx hb hts inG_X2 hown hK hP 0 rfl rfl 0 (by decide) (hts _ mg_77) (fun _ h9 => h9) rfl dX2_alter_1 ?_
  refine lv_iload_n hx hb dX2_alter_4 rfl (lv_at hl 1 rfl) ?_
  obtain ⟨r1, σ2, hc, hf⟩ := gs_ob_e hf
  have hF := u_free hD hS hA
  refine u_calli (va_runV (As := [.int x1]) (rest := []) ⟨hx, hb, hml, hown, hts⟩ (ct_X1_isStripe l dC dI h k T σ s.heap.size x1 _ hc) (cwV 1 hts (gd_V mg_245 mg_246 mg_247 mg_34 mg_248) rfl rfl rfl (by decide +kernel) ⟨Nat.le_of_ble_eq_true rfl, Nat.le_of_ble_eq_true rfl⟩) (u_preV zA_g hK hP hD hS hF hZ (va_recv hK hP (ci := 1) (q0 := 1) rfl rfl)) rfl rfl hl.1 rfl (lv_room (Nat.le_of_ble_eq_true rfl)) dX2_alter_5 ⟨Nat.le_refl _, Nat.le_refl _⟩) hS hF (fun H locs hP hD hS => ?_)
  refine lv_if_eq (tgt := 18) hx hb dX2_alter_8 (by decide) (fun hq => ?_) (fun hq => ?_)
  · have hf := gs_t hf hq
    refine lv_iconst (v := (-1)) hx hb dX2_alter_18 (by decide) ?_
    exact W.iret (v := (-1)) hx hb hr (fun t ht hW => u_ri (Option.some.inj hf) ht hW hP hK hD hS) hS.2.2 dX2_alter_19
  · have hf := gs_f hf hq
    refine lv_iload_n hx hb dX2_alter_11 rfl (lv_at hl 2 rfl) ?_
    obtain ⟨r3, σ4, hc, hf⟩ := gs_ob_e hf
    have hF := u_free hD hS hA
    refine u_calli (va_runS (As := [.int x2]) (rest := []) ⟨hx, hb, hml, hown, hts⟩ (ct_X2_isColumn l dC dI h k T σ2 H.size x2 _ hc) (va_cwS 1 hts (gd_S mg_249 mg_250 mg_32 mg_251) rfl rfl rfl (by decide +kernel) ⟨Nat.le_of_ble_eq_true rfl, Nat.le_of_ble_eq_true rfl⟩) (u_preS zA_g hK hP hD hS hF hZ) rfl rfl hl.1 rfl (lv_room (Nat.le_of_ble_eq_true rfl)) dX2_alter_12 ⟨Nat.le_refl _, Nat.le_refl _⟩) hS hF (fun H locs hP hD hS => ?_)
    refine lv_if_ne (tgt := 20) hx hb dX2_alter_15 (by decide) (fun hq => ?_) (fun hq => ?_)
    · have hf := gs_f hf hq
      refine lv_aload_n hx hb dX2_alter_20 rfl (lv_at hl 0 rfl) ?_
      refine va_get (D := (dC, dI)) (ci := 2) (v := .ref (h 1)) (C := RX2) (T := TX2) (N := 2) hx hb hts inG_X2 hown hK hP 0 rfl rfl 0 (by decide) (hts _ mg_77) (fun _ h9 => h9) rfl dX2_alter_21 ?_
      refine lv_iload_n hx hb dX2_alter_24 rfl (lv_at hl 1 rfl) ?_
      refine lv_iload_n hx hb dX2_alter_25 rfl (lv_at hl 2 rfl) ?_
      obtain ⟨r5, σ6, hc, hf⟩ := gs_ob_e hf
      have hF := u_free hD hS hA
      refine u_calli (va_runV (As := [.int x1, .int x2]) (rest := []) ⟨hx, hb, hml, hown, hts⟩ (ct_X1_isLost l dC dI h k T σ4 H.size x1 x2 _ hc) (cwV 2 hts (gd_V mg_179 mg_161 mg_162 mg_34 mg_163) rfl rfl rfl (by decide +kernel) ⟨Nat.le_of_ble_eq_true rfl, Nat.le_of_ble_eq_true rfl⟩) (u_preV zA_g hK hP hD hS hF hZ (va_recv hK hP (ci := 1) (q0 := 1) rfl rfl)) rfl rfl hl.1 rfl (lv_room (Nat.le_of_ble_eq_true rfl)) dX2_alter_26 ⟨Nat.le_refl _, Nat.le_refl _⟩) hS hF (fun H locs hP hD hS => ?_)
      refine lv_if_ne (tgt := 36) hx hb dX2_alter_29 (by decide) (fun hq => ?_) (fun hq => ?_)
      · have hf := gs_f hf hq
        refine lv_iconst (v := (-1)) hx hb dX2_alter_36 (by decide) ?_
        exact W.iret (v := (-1)) hx hb hr (fun t ht hW => u_ri (Option.some.inj hf) ht hW hP hK hD hS) hS.2.2 dX2_alter_37
      · have hf := gs_t hf hq
        refine lv_iload_n hx hb dX2_alter_32 rfl (lv_at hl 3 rfl) ?_
        refine lv_if_ne (tgt := 38) hx hb dX2_alter_33 (by decide) (fun hq => ?_) (fun hq => ?_)
        · have hf := gs_f hf hq
          refine lv_aload_n hx hb dX2_alter_38 rfl (lv_at hl 0 rfl) ?_
          refine va_get (D := (dC, dI)) (ci := 2) (v := .ref (h 1)) (C := RX2) (T := TX2) (N := 2) hx hb hts inG_X2 hown hK hP 0 rfl rfl 0 (by decide) (hts _ mg_77) (fun _ h9 => h9) rfl dX2_alter_39 ?_
          refine lv_iload_n hx hb dX2_alter_42 rfl (lv_at hl 1 rfl) ?_
          refine lv_iload_n hx hb dX2_alter_43 rfl (lv_at hl 2 rfl) ?_
          refine lv_iload_n hx hb dX2_alter_44 rfl (lv_at hl 3 rfl) ?_
          obtain ⟨r7, σ8, hc, hf⟩ := gs_ob_e hf
          have hF := u_free hD hS hA
          refine u_callv (va_runV (As := [.int x1, .int x2, .int x3]) (rest := []) ⟨hx, hb, hml, hown, hts⟩ (ct_X1_flip l dC dI h k T σ6 H.size x1 x2 x3 _ hc) (cwV 3 hts (gd_V mg_252 mg_253 mg_254 mg_34 mg_255) rfl rfl rfl (by decide +kernel) ⟨Nat.le_of_ble_eq_true rfl, Nat.le_of_ble_eq_true rfl⟩) (u_preV zA_g hK hP hD hS hF hZ (va_recv hK hP (ci := 1) (q0 := 1) rfl rfl)) rfl rfl hl.1 rfl (lv_room (Nat.le_of_ble_eq_true rfl)) dX2_alter_45 ⟨Nat.le_refl _, Nat.le_refl _⟩) hS hF (fun H locs hP hD hS => ?_)
          refine lv_iconst (v := 0) hx hb dX2_alter_48 (by decide) ?_
          exact W.iret (v := 0) hx hb hr (fun t ht hW => u_ri (Option.some.inj hf) ht hW hP hK hD hS) hS.2.2 dX2_alter_49
        · have hf := gs_t hf hq
          refine lv_iconst (v := (-1)) hx hb dX2_alter_36 (by decide) ?_
          exact W.iret (v := (-1)) hx hb hr (fun t ht hW => u_ri (Option.some.inj hf) ht hW hP hK hD hS) hS.2.2 dX2_alter_37
    · have hf := gs_t hf hq
      refine lv_iconst (v := (-1)) hx hb dX2_alter_18 (by decide) ?_
      exact W.iret (v := (-1)) hx hb hr (fun t ht hW => u_ri (Option.some.inj hf) ht hW hP hK hD hS) hS.2.2 dX2_alter_19
set_option maxHeartbeats 4000000 in
set_option maxRecDepth 100000 in
theorem ct_X2_isAmount (l : Launch) (dC : Nat → ClassId) (dI : Nat → Nat → Nat) (h : Nat → Nat) (k : Nat → ClassId) (T : Nat) (σ : gS) (sz : Nat) (x0 : Int32) (y : Int32 × gS) (hf : fn_X2_isAmount T x0 σ = some y) : Met l yX2_isAmount wsX2_isAmount ({ frames := 0, cells := 0, slots := 0, locals := 0 }) (va_Pc [.int x0] (uPre (dC, dI) vwCl (tA k) (wA h k T) zA σ sz)) (va_Qi (fun r u => (r, u) = y) (uAt (dC, dI) vwCl (tA k) (wA h k T) (va_A (wA h k T σ) sz)) (va_A (wA h k T σ) sz)) 0 0 (va_A (wA h k T σ) sz) := by
  refine Met.ofW (cc := cX2_isAmount) (maxL := 1) (ret := (some .boolean)) (by decide) rfl ?_
  intro p e s m args below meth c s₁ B hml hv
  obtain ⟨rfl, hsz, hP, hK, hD0, hZ⟩ := hv
  have hx := B.exec
  have hb := B.bytes
  have hr := B.returns
  have hts : ∀ w ∈ gG, w.before _ s = true := fun w h => atoms_spec (ws := wsX2_isAmount) B.pre w (List.mem_cons_of_mem _ h)
  have hown : s.vm.findClass RX2 = some m.cls := findClass_of_methodNamed B.named
  have hlocks := B.notSynchronized
  subst hsz
  have hD := hD0.self (sz := s.heap.size)
  generalize hAe : va_A (wA h k T σ) s.heap.size = A at hD hZ ⊢
  have hA : ∀ q : Nat, s.heap.size ≤ q → A q := fun q h => by rw [← hAe]; exact Or.inr h
  have hS : va_S A s.heap s.heap [] := va_S.rf
  obtain ⟨t0, hZ0, hT0, hN0⟩ := id hZ
  have hl := lv_entry ([.int x0]) (n := 1) (Nat.le_of_ble_eq_true rfl)
  rw [lg_entry_eq]
  generalize (lg_sl ([.int x0]) ++ List.replicate (1 - (lg_sl ([.int x0])).length) Slot.unset).toArray = ls at hl ⊢
  have hl : lv_has ls 1 [(0, .int x0)] := hl
  rw [fn_X2_isAmount] at hf
  refine lv_iload_n hx hb dX2_isAmount_0 rfl (lv_at hl 0 rfl) ?_
  refine lv_iconst (v := 1) hx hb dX2_isAmount_1 (by decide) ?_
  refine lv_icmp_lt (tgt := 15) hx hb dX2_isAmount_2 (by decide) (fun hq => ?_) (fun hq => ?_)
  · have hf := gs_t hf hq
    refine lv_iconst (v := 0) hx hb dX2_isAmount_15 (by decide) ?_
    exact W.zret (v := 0) (ty := .boolean) hx hb hr rfl (fun t ht hW => u_ri (Option.some.inj hf) ht hW hP hK hD hS) hS.2.2 dX2_isAmount_16
  · have hf := gs_f hf hq
    refine lv_iload_n hx hb dX2_isAmount_5 rfl (lv_at hl 0 rfl) ?_
    refine lv_bipush (v := 21) hx hb dX2_isAmount_6 (by decide) ?_
    refine lv_icmp_gt (tgt := 15) hx hb dX2_isAmount_8 (by decide) (fun hq => ?_) (fun hq => ?_)
    · have hf := gs_t hf hq
      refine lv_iconst (v := 0) hx hb dX2_isAmount_15 (by decide) ?_
      exact W.zret (v := 0) (ty := .boolean) hx hb hr rfl (fun t ht hW => u_ri (Option.some.inj hf) ht hW hP hK hD hS) hS.2.2 dX2_isAmount_16
    · have hf := gs_f hf hq
      refine lv_iconst (v := 1) hx hb dX2_isAmount_11 (by decide) ?_
      refine lv_goto (tgt := 16) hx hb dX2_isAmount_12 (by decide) ?_
      exact W.zret (v := 1) (ty := .boolean) hx hb hr rfl (fun t ht hW => u_ri (Option.some.inj hf) ht hW hP hK hD hS) hS.2.2 dX2_isAmount_16
set_option maxHeartbeats 4000000 in
set_option maxRecDepth 100000 in
theorem ct_X1_firstLost (l : Launch) (dC : Nat → ClassId) (dI : Nat → Nat → Nat) (h : Nat → Nat) (k : Nat → ClassId) (T : Nat) (σ : gS) (sz : Nat) (x1 : Int32) (y : Int32 × gS) (hf : fn_X1_firstLost T x1 σ = some y) : Met l yX1_firstLost wsX1_firstLost ({ frames := 2, cells := 0, slots := 0, locals := 43 }) (va_Pc [.ref (h 1), .int x1] (uPre (dC, dI) vwCl (tA k) (wA h k T) zA σ sz)) (va_Qi (fun r u => (r, u) = y) (uAt (dC, dI) vwCl (tA k) (wA h k T) (va_A (wA h k T σ) sz)) (va_A (wA h k T σ) sz)) 0 0 (va_A (wA h k T σ) sz) := by
  refine Met.ofW (cc := cX1_firstLost) (maxL := 3) (ret := (some .int)) (by decide) rfl ?_
  intro p e s m args below meth c s₁ B hml hv
  obtain ⟨rfl, hsz, hP, hK, hD0, hZ⟩ := hv
  have hx := B.exec
  have hb := B.bytes
  have hr := B.returns
  have hts : ∀ w ∈ gG, w.before _ s = true := fun w h => atoms_spec (ws := wsX1_firstLost) B.pre w (List.mem_cons_of_mem _ h)
  have hown : s.vm.findClass RX1 = some m.cls := findClass_of_methodNamed B.named
  have hlocks := B.notSynchronized
  subst hsz
  have hD := hD0.self (sz := s.heap.size)
  generalize hAe : va_A (wA h k T σ) s.heap.size = A at hD hZ ⊢
  have hA : ∀ q : Nat, s.heap.size ≤ q → A q := fun q h => by rw [← hAe]; exact Or.inr h
  have hS : va_S A s.heap s.heap [] := va_S.rf
  obtain ⟨t0, hZ0, hT0, hN0⟩ := id hZ
  have L2 : ∀ (n : Nat), ∀ (z1 : Int32) (z2 : Int32) (σ : gS) (H : Heap) (locs : List Loc) (ls : Array Slot), fn_X1_firstLost_L2 T n z1 z2 σ = some y → va_P (dC, dI) vwCl (wA h k T σ) H → va_D A (wA h k T σ) → va_S A s.heap H locs → lv_has ls 3 [(0, .ref (h 1)), (1, .int z1), (2, .int z2)] → W p l e ({ frames := 2, cells := 0, slots := 0, locals := 43 }) s m ([.ref (h 1), .int x1] : List Value).toArray below meth c H locs 0 0 (MQ below (va_Qi (fun r u => (r, u) = y) (uAt (dC, dI) vwCl (tA k) (wA h k T) A) A) ([.ref (h 1), .int x1] : List Value).toArray s 0 0 A) (F0 m 2 ls []) := by
    intro n
    induction n with
    | zero => intro z1 z2 σ H locs ls hf; exact absurd hf (by rw [fn_X1_firstLost_L2]; exact nofun)
    | succ n ih =>
      intro z1 z2 σ H locs ls hf hP hD hS hl
      rw [fn_X1_firstLost_L2] at hf
      refine lv_iload_n hx hb dX1_firstLost_2 rfl (lv_at hl 2 rfl) ?_
      refine lv_iconst (v := 4) hx hb dX1_firstLost_3 (by decide) ?_
      refine lv_icmp_ge (tgt := 24) hx hb dX1_firstLost_4 (by decide) (fun hq => ?_) (fun hq => ?_)
      · have hf := gs_t hf hq
        refine lv_iconst (v := 4) hx hb dX1_firstLost_24 (by decide) ?_
        exact W.iret (v := 4) hx hb hr (fun t ht hW => u_ri (Option.some.inj hf) ht hW hP hK hD hS) hS.2.2 dX1_firstLost_25
      · have hf := gs_f hf hq
        refine lv_aload_n hx hb dX1_firstLost_7 rfl (lv_at hl 0 rfl) ?_
        refine lv_iload_n hx hb dX1_firstLost_8 rfl (lv_at hl 1 rfl) ?_
        refine lv_iload_n hx hb dX1_firstLost_9 rfl (lv_at hl 2 rfl) ?_
        obtain ⟨r1, σ2, hc, hf⟩ := gs_ob_e hf
        have hF := u_free hD hS hA
        refine u_calli (va_runV (As := [.int z1, .int z2]) (rest := []) ⟨hx, hb, hml, hown, hts⟩ (ct_X1_isLost l dC dI h k T σ H.size z1 z2 _ hc) (cwV 2 hts (gd_V mg_160 mg_161 mg_162 mg_34 mg_163) rfl rfl rfl (by decide +kernel) ⟨Nat.le_of_ble_eq_true rfl, Nat.le_of_ble_eq_true rfl⟩) (u_preV zA_g hK hP hD hS hF hZ (va_recv hK hP (ci := 1) (q0 := 1) rfl rfl)) rfl rfl hl.1 rfl (lv_room (Nat.le_of_ble_eq_true rfl)) dX1_firstLost_10 ⟨Nat.le_refl _, Nat.le_refl _⟩) hS hF (fun H locs hP hD hS => ?_)
        refine lv_if_eq (tgt := 18) hx hb dX1_firstLost_13 (by decide) (fun hq => ?_) (fun hq => ?_)
        · have hf := gs_t hf hq
          refine lv_iinc (v := z2 + 1) (lv' := [(2, .int (z2 + 1)), (0, .ref (h 1)), (1, .int z1)]) hx hb dX1_firstLost_18 hl (k := 2) rfl rfl (by decide) rfl (fun ls hl => ?_)
          refine lv_goto (tgt := 2) hx hb dX1_firstLost_21 (by decide) ?_
          exact ih z1 (z2 + 1) σ2 _ _ _ hf hP hD hS (lv_sub hl [1, 2, 0] rfl)
        · have hf := gs_f hf hq
          refine lv_iload_n hx hb dX1_firstLost_16 rfl (lv_at hl 2 rfl) ?_
          exact W.iret (v := z2) hx hb hr (fun t ht hW => u_ri (Option.some.inj hf) ht hW hP hK hD hS) hS.2.2 dX1_firstLost_17
  have hl := lv_entry ([.ref (h 1), .int x1]) (n := 3) (Nat.le_of_ble_eq_true rfl)
  rw [lg_entry_eq]
  generalize (lg_sl ([.ref (h 1), .int x1]) ++ List.replicate (3 - (lg_sl ([.ref (h 1), .int x1])).length) Slot.unset).toArray = ls at hl ⊢
  have hl : lv_has ls 3 [(0, .ref (h 1)), (1, .int x1)] := hl
  rw [fn_X1_firstLost] at hf
  refine lv_iconst (v := 0) hx hb dX1_firstLost_0 (by decide) ?_
  refine lv_istore_n (lv' := [(2, .int 0), (0, .ref (h 1)), (1, .int x1)]) hx hb dX1_firstLost_1 rfl hl (by decide) rfl (fun ls hl => ?_)
  exact L2 gs_fu x1 0 σ _ _ _ hf hP hD hS (lv_sub hl [1, 2, 0] rfl)
set_option maxHeartbeats 4000000 in
set_option maxRecDepth 100000 in
theorem ct_X1_wordFromOthers (l : Launch) (dC : Nat → ClassId) (dI : Nat → Nat → Nat) (h : Nat → Nat) (k : Nat → ClassId) (T : Nat) (σ : gS) (sz : Nat) (x1 : Int32) (x2 : Int32) (y : Int32 × gS) (hf : fn_X1_wordFromOthers T x1 x2 σ = some y) : Met l yX1_wordFromOthers wsX1_wordFromOthers ({ frames := 1, cells := 0, slots := 0, locals := 21 }) (va_Pc [.ref (h 1), .int x1, .int x2] (uPre (dC, dI) vwCl (tA k) (wA h k T) zA σ sz)) (va_Qi (fun r u => (r, u) = y) (uAt (dC, dI) vwCl (tA k) (wA h k T) (va_A (wA h k T σ) sz)) (va_A (wA h k T σ) sz)) 0 0 (va_A (wA h k T σ) sz) := by
  refine Met.ofW (cc := cX1_wordFromOthers) (maxL := 5) (ret := (some .int)) (by decide) rfl ?_
  intro p e s m args below meth c s₁ B hml hv
  obtain ⟨rfl, hsz, hP, hK, hD0, hZ⟩ := hv
  have hx := B.exec
  have hb := B.bytes
  have hr := B.returns
  have hts : ∀ w ∈ gG, w.before _ s = true := fun w h => atoms_spec (ws := wsX1_wordFromOthers) B.pre w (List.mem_cons_of_mem _ h)
  have hown : s.vm.findClass RX1 = some m.cls := findClass_of_methodNamed B.named
  have hlocks := B.notSynchronized
  subst hsz
  have hD := hD0.self (sz := s.heap.size)
  generalize hAe : va_A (wA h k T σ) s.heap.size = A at hD hZ ⊢
  have hA : ∀ q : Nat, s.heap.size ≤ q → A q := fun q h => by rw [← hAe]; exact Or.inr h
  have hS : va_S A s.heap s.heap [] := va_S.rf
  obtain ⟨t0, hZ0, hT0, hN0⟩ := id hZ
  have L5 : ∀ (n : Nat), ∀ (z1 : Int32) (z2 : Int32) (z3 : Int32) (z4 : Int32) (σ : gS) (H : Heap) (locs : List Loc) (ls : Array Slot), fn_X1_wordFromOthers_L5 T n z1 z2 z3 z4 σ = some y → va_P (dC, dI) vwCl (wA h k T σ) H → va_D A (wA h k T σ) → va_S A s.heap H locs → lv_has ls 5 [(0, .ref (h 1)), (1, .int z1), (2, .int z2), (3, .int z3), (4, .int z4)] → W p l e ({ frames := 1, cells := 0, slots := 0, locals := 21 }) s m ([.ref (h 1), .int x1, .int x2] : List Value).toArray below meth c H locs 0 0 (MQ below (va_Qi (fun r u => (r, u) = y) (uAt (dC, dI) vwCl (tA k) (wA h k T) A) A) ([.ref (h 1), .int x1, .int x2] : List Value).toArray s 0 0 A) (F0 m 5 ls []) := by
    intro n
    induction n with
    | zero => intro z1 z2 z3 z4 σ H locs ls hf; exact absurd hf (by rw [fn_X1_wordFromOthers_L5]; exact nofun)
    | succ n ih =>
      intro z1 z2 z3 z4 σ H locs ls hf hP hD hS hl
      rw [fn_X1_wordFromOthers_L5] at hf
      refine lv_iload hx hb dX1_wordFromOthers_5 (lv_at hl 4 rfl) ?_
      refine lv_iconst (v := 4) hx hb dX1_wordFromOthers_7 (by decide) ?_
      refine lv_icmp_ge (tgt := 37) hx hb dX1_wordFromOthers_8 (by decide) (fun hq => ?_) (fun hq => ?_)
      · have hf := gs_t hf hq
        refine lv_iload_n hx hb dX1_wordFromOthers_37 rfl (lv_at hl 3 rfl) ?_
        exact W.iret (v := z3) hx hb hr (fun t ht hW => u_ri (Option.some.inj hf) ht hW hP hK hD hS) hS.2.2 dX1_wordFromOthers_38
      · have hf := gs_f hf hq
        refine lv_iload hx hb dX1_wordFromOthers_11 (lv_at hl 4 rfl) ?_
        refine lv_iload_n hx hb dX1_wordFromOthers_13 rfl (lv_at hl 2 rfl) ?_
        refine lv_icmp_eq (tgt := 31) hx hb dX1_wordFromOthers_14 (by decide) (fun hq => ?_) (fun hq => ?_)
        · have hf := gs_t hf hq
          refine lv_iinc (v := z4 + 1) (lv' := [(4, .int (z4 + 1)), (0, .ref (h 1)), (1, .int z1), (2, .int z2), (3, .int z3)]) hx hb dX1_wordFromOthers_31 hl (k := 4) rfl rfl (by decide) rfl (fun ls hl => ?_)
          refine lv_goto (tgt := 5) hx hb dX1_wordFromOthers_34 (by decide) ?_
          exact ih z1 z2 z3 (z4 + 1) σ _ _ _ hf hP hD hS (lv_sub hl [1, 2, 3, 4, 0] rfl)
        · have hf := gs_f hf hq
          refine lv_iload_n hx hb dX1_wordFromOthers_17 rfl (lv_at hl 3 rfl) ?_
          refine lv_aload_n hx hb dX1_wordFromOthers_18 rfl (lv_at hl 0 rfl) ?_
          refine va_get (D := (dC, dI)) (ci := 1) (v := .ref (h 4)) (C := RX1) (T := TX1) (N := 7) hx hb hts inG_X1 hown hK hP 1 rfl rfl 3 (by decide) (hts _ mg_60) (fun _ h9 => h9) rfl dX1_wordFromOthers_19 ?_
          refine lv_iload_n hx hb dX1_wordFromOthers_22 rfl (lv_at hl 1 rfl) ?_
          refine lv_iload hx hb dX1_wordFromOthers_23 (lv_at hl 4 rfl) ?_
          obtain ⟨r1, σ2, hc, hf⟩ := gs_ob_e hf
          have hF := u_free hD hS hA
          refine u_calli (va_runS (As := [.int z1, .int z4]) (rest := [.ref (h 4), .int z3]) ⟨hx, hb, hml, hown, hts⟩ (ct_X1_place l dC dI h k T σ H.size z1 z4 _ hc) (va_cwS 2 hts (gd_S mg_164 mg_165 mg_34 mg_166) rfl rfl rfl (by decide +kernel) ⟨Nat.le_of_ble_eq_true rfl, Nat.le_of_ble_eq_true rfl⟩) (u_preS zA_g hK hP hD hS hF hZ) rfl rfl hl.1 rfl (lv_room (Nat.le_of_ble_eq_true rfl)) dX1_wordFromOthers_25 ⟨Nat.le_refl _, Nat.le_refl _⟩) hS hF (fun H locs hP hD hS => ?_)
          obtain ⟨hin, hf⟩ := gs_gd_e hf
          refine va_iald hx hb hK hP 4 2 rfl rfl hin dX1_wordFromOthers_28 ?_
          refine lv_ixor hx hb dX1_wordFromOthers_29 ?_
          refine lv_istore_n (lv' := [(3, .int (z3 ^^^ (σ2 2 r1.toNatClampNeg))), (0, .ref (h 1)), (1, .int z1), (2, .int z2), (4, .int z4)]) hx hb dX1_wordFromOthers_30 rfl hl (by decide) rfl (fun ls hl => ?_)
          refine lv_iinc (v := z4 + 1) (lv' := [(4, .int (z4 + 1)), (3, .int (z3 ^^^ (σ2 2 r1.toNatClampNeg))), (0, .ref (h 1)), (1, .int z1), (2, .int z2)]) hx hb dX1_wordFromOthers_31 hl (k := 4) rfl rfl (by decide) rfl (fun ls hl => ?_)
          refine lv_goto (tgt := 5) hx hb dX1_wordFromOthers_34 (by decide) ?_
          exact ih z1 z2 (z3 ^^^ (σ2 2 r1.toNatClampNeg)) (z4 + 1) σ2 _ _ _ hf hP hD hS (lv_sub hl [2, 3, 4, 1, 0] rfl)
  have hl := lv_entry ([.ref (h 1), .int x1, .int x2]) (n := 5) (Nat.le_of_ble_eq_true rfl)
  rw [lg_entry_eq]
  generalize (lg_sl ([.ref (h 1), .int x1, .int x2]) ++ List.replicate (5 - (lg_sl ([.ref (h 1), .int x1, .int x2])).length) Slot.unset).toArray = ls at hl ⊢
  have hl : lv_has ls 5 [(0, .ref (h 1)), (1, .int x1), (2, .int x2)] := hl
  rw [fn_X1_wordFromOthers] at hf
  refine lv_iconst (v := 0) hx hb dX1_wordFromOthers_0 (by decide) ?_
  refine lv_istore_n (lv' := [(3, .int 0), (0, .ref (h 1)), (1, .int x1), (2, .int x2)]) hx hb dX1_wordFromOthers_1 rfl hl (by decide) rfl (fun ls hl => ?_)
  refine lv_iconst (v := 0) hx hb dX1_wordFromOthers_2 (by decide) ?_
  refine lv_istore (lv' := [(4, .int 0), (3, .int 0), (0, .ref (h 1)), (1, .int x1), (2, .int x2)]) hx hb dX1_wordFromOthers_3 hl (by decide) rfl (fun ls hl => ?_)
  exact L5 gs_fu x1 x2 0 0 σ _ _ _ hf hP hD hS (lv_sub hl [2, 3, 4, 1, 0] rfl)
set_option maxHeartbeats 4000000 in
set_option maxRecDepth 100000 in
theorem ct_X1_workOutIn (l : Launch) (dC : Nat → ClassId) (dI : Nat → Nat → Nat) (h : Nat → Nat) (k : Nat → ClassId) (T : Nat) (σ : gS) (sz : Nat) (x1 : Int32) (y : Int32 × gS) (hf : fn_X1_workOutIn T x1 σ = some y) : Met l yX1_workOutIn wsX1_workOutIn ({ frames := 4, cells := 0, slots := 0, locals := 89 }) (va_Pc [.ref (h 1), .int x1] (uPre (dC, dI) vwCl (tA k) (wA h k T) zA σ sz)) (va_Qi (fun r u => (r, u) = y) (uAt (dC, dI) vwCl (tA k) (wA h k T) (va_A (wA h k T σ) sz)) (va_A (wA h k T σ) sz)) 0 0 (va_A (wA h k T σ) sz) := by
  refine Met.ofW (cc := cX1_workOutIn) (maxL := 4) (ret := (some .boolean)) (by decide) rfl ?_
  intro p e s m args below meth c s₁ B hml hv
  obtain ⟨rfl, hsz, hP, hK, hD0, hZ⟩ := hv
  have hx := B.exec
  have hb := B.bytes
  have hr := B.returns
  have hts : ∀ w ∈ gG, w.before _ s = true := fun w h => atoms_spec (ws := wsX1_workOutIn) B.pre w (List.mem_cons_of_mem _ h)
  have hown : s.vm.findClass RX1 = some m.cls := findClass_of_methodNamed B.named
  have hlocks := B.notSynchronized
  subst hsz
  have hD := hD0.self (sz := s.heap.size)
  generalize hAe : va_A (wA h k T σ) s.heap.size = A at hD hZ ⊢
  have hA : ∀ q : Nat, s.heap.size ≤ q → A q := fun q h => by rw [← hAe]; exact Or.inr h
  have hS : va_S A s.heap s.heap [] := va_S.rf
  obtain ⟨t0, hZ0, hT0, hN0⟩ := id hZ
  have hl := lv_entry ([.ref (h 1), .int x1]) (n := 4) (Nat.le_of_ble_eq_true rfl)
  rw [lg_entry_eq]
  generalize (lg_sl ([.ref (h 1), .int x1]) ++ List.replicate (4 - (lg_sl ([.ref (h 1), .int x1])).length) Slot.unset).toArray = ls at hl ⊢
  have hl : lv_has ls 4 [(0, .ref (h 1)), (1, .int x1)] := hl
  rw [fn_X1_workOutIn] at hf
  refine lv_aload_n hx hb dX1_workOutIn_0 rfl (lv_at hl 0 rfl) ?_
  refine lv_iload_n hx hb dX1_workOutIn_1 rfl (lv_at hl 1 rfl) ?_
  obtain ⟨r1, σ2, hc, hf⟩ := gs_ob_e hf
  have hF := u_free hD hS hA
  refine u_calli (va_runV (As := [.int x1]) (rest := []) ⟨hx, hb, hml, hown, hts⟩ (ct_X1_firstLost l dC dI h k T σ s.heap.size x1 _ hc) (cwV 1 hts (gd_V mg_270 mg_271 mg_12 mg_34 mg_272) rfl rfl rfl (by decide +kernel) ⟨Nat.le_of_ble_eq_true rfl, Nat.le_of_ble_eq_true rfl⟩) (u_preV zA_g hK hP hD hS hF hZ (va_recv hK hP (ci := 1) (q0 := 1) rfl rfl)) rfl rfl hl.1 rfl (lv_room (Nat.le_of_ble_eq_true rfl)) dX1_workOutIn_2 ⟨Nat.le_refl _, Nat.le_refl _⟩) hS hF (fun H locs hP hD hS => ?_)
  refine lv_istore_n (lv' := [(2, .int r1), (0, .ref (h 1)), (1, .int x1)]) hx hb dX1_workOutIn_5 rfl hl (by decide) rfl (fun ls hl => ?_)
  refine lv_iload_n hx hb dX1_workOutIn_6 rfl (lv_at hl 0 rfl) ?_
  refine lv_iconst (v := 4) hx hb dX1_workOutIn_7 (by decide) ?_
  refine lv_icmp_eq (tgt := 19) hx hb dX1_workOutIn_8 (by decide) (fun hq => ?_) (fun hq => ?_)
  · have hf := gs_t hf hq
    refine lv_iconst (v := 0) hx hb dX1_workOutIn_19 (by decide) ?_
    exact W.zret (v := 0) (ty := .boolean) hx hb hr rfl (fun t ht hW => u_ri (Option.some.inj hf) ht hW hP hK hD hS) hS.2.2 dX1_workOutIn_20
  · have hf := gs_f hf hq
    refine lv_aload_n hx hb dX1_workOutIn_11 rfl (lv_at hl 1 rfl) ?_
    refine lv_iload_n hx hb dX1_workOutIn_12 rfl (lv_at hl 2 rfl) ?_
    obtain ⟨r3, σ4, hc, hf⟩ := gs_ob_e hf
    have hF := u_free hD hS hA
    refine u_calli (va_runV (As := [.int x1]) (rest := []) ⟨hx, hb, hml, hown, hts⟩ (ct_X1_isBroken l dC dI h k T σ2 H.size x1 _ hc) (cwV 1 hts (gd_V mg_273 mg_153 mg_154 mg_34 mg_155) rfl rfl rfl (by decide +kernel) ⟨Nat.le_of_ble_eq_true rfl, Nat.le_of_ble_eq_true rfl⟩) (u_preV zA_g hK hP hD hS hF hZ (va_recv hK hP (ci := 1) (q0 := 1) rfl rfl)) rfl rfl hl.1 rfl (lv_room (Nat.le_of_ble_eq_true rfl)) dX1_workOutIn_13 ⟨Nat.le_refl _, Nat.le_refl _⟩) hS hF (fun H locs hP hD hS => ?_)
    refine lv_if_eq (tgt := 21) hx hb dX1_workOutIn_16 (by decide) (fun hq => ?_) (fun hq => ?_)
    · have hf := gs_t hf hq
      refine lv_aload_n hx hb dX1_workOutIn_21 rfl (lv_at hl 1 rfl) ?_
      refine va_get (D := (dC, dI)) (ci := 1) (v := .ref (h 2)) (C := RX1) (T := TX1) (N := 7) hx hb hts inG_X1 hown hK hP 1 rfl rfl 1 (by decide) (hts _ mg_58) (fun _ h9 => h9) rfl dX1_workOutIn_22 ?_
      refine lv_iload_n hx hb dX1_workOutIn_25 rfl (lv_at hl 2 rfl) ?_
      refine lv_iload_n hx hb dX1_workOutIn_26 rfl (lv_at hl 0 rfl) ?_
      obtain ⟨r5, σ6, hc, hf⟩ := gs_ob_e hf
      have hF := u_free hD hS hA
      refine u_calli (va_runS (As := [.int x1, .int r1]) (rest := [.ref (h 2)]) ⟨hx, hb, hml, hown, hts⟩ (ct_X1_home l dC dI h k T σ4 H.size x1 r1 _ hc) (va_cwS 2 hts (gd_S mg_227 mg_228 mg_34 mg_229) rfl rfl rfl (by decide +kernel) ⟨Nat.le_of_ble_eq_true rfl, Nat.le_of_ble_eq_true rfl⟩) (u_preS zA_g hK hP hD hS hF hZ) rfl rfl hl.1 rfl (lv_room (Nat.le_of_ble_eq_true rfl)) dX1_workOutIn_27 ⟨Nat.le_refl _, Nat.le_refl _⟩) hS hF (fun H locs hP hD hS => ?_)
      obtain ⟨hin, hf⟩ := gs_gd_e hf
      refine va_zald hx hb hK hP 2 0 rfl rfl hin dX1_workOutIn_30 ?_
      refine lv_if_ne (tgt := 65) hx hb dX1_workOutIn_31 (by decide) (fun hq => ?_) (fun hq => ?_)
      · have hf := gs_f hf hq
        refine lv_iload_n hx hb dX1_workOutIn_65 rfl (lv_at hl 2 rfl) ?_
        refine lv_iload_n hx hb dX1_workOutIn_66 rfl (lv_at hl 0 rfl) ?_
        obtain ⟨r7, σ8, hc, hf⟩ := gs_ob_e hf
        have hF := u_free hD hS hA
        refine u_calli (va_runS (As := [.int x1, .int r1]) (rest := []) ⟨hx, hb, hml, hown, hts⟩ (ct_X1_place l dC dI h k T σ6 H.size x1 r1 _ hc) (va_cwS 2 hts (gd_S mg_164 mg_165 mg_34 mg_166) rfl rfl rfl (by decide +kernel) ⟨Nat.le_of_ble_eq_true rfl, Nat.le_of_ble_eq_true rfl⟩) (u_preS zA_g hK hP hD hS hF hZ) rfl rfl hl.1 rfl (lv_room (Nat.le_of_ble_eq_true rfl)) dX1_workOutIn_67 ⟨Nat.le_refl _, Nat.le_refl _⟩) hS hF (fun H locs hP hD hS => ?_)
        refine lv_istore_n (lv' := [(3, .int r7), (2, .int r1), (0, .ref (h 1)), (1, .int x1)]) hx hb dX1_workOutIn_70 rfl hl (by decide) rfl (fun ls hl => ?_)
        refine lv_aload_n hx hb dX1_workOutIn_71 rfl (lv_at hl 2 rfl) ?_
        refine va_get (D := (dC, dI)) (ci := 1) (v := .ref (h 4)) (C := RX1) (T := TX1) (N := 7) hx hb hts inG_X1 hown hK hP 1 rfl rfl 3 (by decide) (hts _ mg_60) (fun _ h9 => h9) rfl dX1_workOutIn_72 ?_
        refine lv_iload_n hx hb dX1_workOutIn_75 rfl (lv_at hl 0 rfl) ?_
        refine lv_aload_n hx hb dX1_workOutIn_76 rfl (lv_at hl 2 rfl) ?_
        refine lv_iload_n hx hb dX1_workOutIn_77 rfl (lv_at hl 3 rfl) ?_
        refine lv_iload_n hx hb dX1_workOutIn_78 rfl (lv_at hl 1 rfl) ?_
        obtain ⟨r9, σ10, hc, hf⟩ := gs_ob_e hf
        have hF := u_free hD hS hA
        refine u_calli (va_runV (As := [.int x1, .int r1]) (rest := [.int r7, .ref (h 4)]) ⟨hx, hb, hml, hown, hts⟩ (ct_X1_wordFromOthers l dC dI h k T σ8 H.size x1 r1 _ hc) (cwV 2 hts (gd_V mg_274 mg_275 mg_13 mg_34 mg_276) rfl rfl rfl (by decide +kernel) ⟨Nat.le_of_ble_eq_true rfl, Nat.le_of_ble_eq_true rfl⟩) (u_preV zA_g hK hP hD hS hF hZ (va_recv hK hP (ci := 1) (q0 := 1) rfl rfl)) rfl rfl hl.1 rfl (lv_room (Nat.le_of_ble_eq_true rfl)) dX1_workOutIn_79 ⟨Nat.le_refl _, Nat.le_refl _⟩) hS hF (fun H locs hP hD hS => ?_)
        obtain ⟨hin, hf⟩ := gs_gd_e hf
        refine va_iast hx hb hK hP hD hS 4 2 rfl rfl hin dX1_workOutIn_82 (fun H locs hP hD hS => ?_)
        obtain ⟨σ11, es, hf⟩ := gs_lt_e hf
        have hP : va_P (dC, dI) vwCl (wA h k T σ11) H := by rw [es]; exact hP
        have hD : va_D A (wA h k T σ11) := by rw [es]; exact hD
        clear es
        refine lv_aload_n hx hb dX1_workOutIn_83 rfl (lv_at hl 2 rfl) ?_
        refine va_get (D := (dC, dI)) (ci := 1) (v := .ref (h 5)) (C := RX1) (T := TX1) (N := 7) hx hb hts inG_X1 hown hK hP 1 rfl rfl 4 (by decide) (hts _ mg_61) (fun _ h9 => h9) rfl dX1_workOutIn_84 ?_
        refine lv_iload_n hx hb dX1_workOutIn_87 rfl (lv_at hl 0 rfl) ?_
        refine lv_iconst (v := 0) hx hb dX1_workOutIn_88 (by decide) ?_
        obtain ⟨hin, hf⟩ := gs_gd_e hf
        refine va_zast hx hb hK hP hD hS 5 3 rfl rfl hin dX1_workOutIn_89 (fun H locs hP hD hS => ?_)
        obtain ⟨σ12, es, hf⟩ := gs_lt_e hf
        have hP : va_P (dC, dI) vwCl (wA h k T σ12) H := by rw [es]; exact hP
        have hD : va_D A (wA h k T σ12) := by rw [es]; exact hD
        clear es
        refine lv_iconst (v := 1) hx hb dX1_workOutIn_90 (by decide) ?_
        exact W.zret (v := 1) (ty := .boolean) hx hb hr rfl (fun t ht hW => u_ri (Option.some.inj hf) ht hW hP hK hD hS) hS.2.2 dX1_workOutIn_91
      · have hf := gs_t hf hq
        refine lv_aload_n hx hb dX1_workOutIn_34 rfl (lv_at hl 1 rfl) ?_
        refine va_get (D := (dC, dI)) (ci := 1) (v := .ref (h 2)) (C := RX1) (T := TX1) (N := 7) hx hb hts inG_X1 hown hK hP 1 rfl rfl 1 (by decide) (hts _ mg_58) (fun _ h9 => h9) rfl dX1_workOutIn_35 ?_
        refine lv_iload_n hx hb dX1_workOutIn_38 rfl (lv_at hl 2 rfl) ?_
        obtain ⟨r13, σ14, hc, hf⟩ := gs_ob_e hf
        have hF := u_free hD hS hA
        refine u_calli (va_runS (As := [.int x1]) (rest := [.ref (h 2)]) ⟨hx, hb, hml, hown, hts⟩ (ct_X1_spare l dC dI h k T σ6 H.size x1 _ hc) (va_cwS 1 hts (gd_S mg_224 mg_225 mg_34 mg_226) rfl rfl rfl (by decide +kernel) ⟨Nat.le_of_ble_eq_true rfl, Nat.le_of_ble_eq_true rfl⟩) (u_preS zA_g hK hP hD hS hF hZ) rfl rfl hl.1 rfl (lv_room (Nat.le_of_ble_eq_true rfl)) dX1_workOutIn_39 ⟨Nat.le_refl _, Nat.le_refl _⟩) hS hF (fun H locs hP hD hS => ?_)
        obtain ⟨hin, hf⟩ := gs_gd_e hf
        refine va_zald hx hb hK hP 2 0 rfl rfl hin dX1_workOutIn_42 ?_
        refine lv_if_eq (tgt := 56) hx hb dX1_workOutIn_43 (by decide) (fun hq => ?_) (fun hq => ?_)
        · have hf := gs_t hf hq
          refine lv_iconst (v := 0) hx hb dX1_workOutIn_56 (by decide) ?_
          exact W.zret (v := 0) (ty := .boolean) hx hb hr rfl (fun t ht hW => u_ri (Option.some.inj hf) ht hW hP hK hD hS) hS.2.2 dX1_workOutIn_57
        · have hf := gs_f hf hq
          refine lv_aload_n hx hb dX1_workOutIn_46 rfl (lv_at hl 1 rfl) ?_
          refine va_get (D := (dC, dI)) (ci := 1) (v := .ref (h 6)) (C := RX1) (T := TX1) (N := 7) hx hb hts inG_X1 hown hK hP 1 rfl rfl 5 (by decide) (hts _ mg_62) (fun _ h9 => h9) rfl dX1_workOutIn_47 ?_
          refine lv_iload_n hx hb dX1_workOutIn_50 rfl (lv_at hl 2 rfl) ?_
          obtain ⟨hin, hf⟩ := gs_gd_e hf
          refine va_iald hx hb hK hP 6 4 rfl rfl hin dX1_workOutIn_51 ?_
          refine lv_iconst (v := 4) hx hb dX1_workOutIn_52 (by decide) ?_
          refine lv_icmp_eq (tgt := 58) hx hb dX1_workOutIn_53 (by decide) (fun hq => ?_) (fun hq => ?_)
          · have hf := gs_t hf hq
            refine lv_aload_n hx hb dX1_workOutIn_58 rfl (lv_at hl 1 rfl) ?_
            refine va_get (D := (dC, dI)) (ci := 1) (v := .ref (h 6)) (C := RX1) (T := TX1) (N := 7) hx hb hts inG_X1 hown hK hP 1 rfl rfl 5 (by decide) (hts _ mg_62) (fun _ h9 => h9) rfl dX1_workOutIn_59 ?_
            refine lv_iload_n hx hb dX1_workOutIn_62 rfl (lv_at hl 2 rfl) ?_
            refine lv_iload_n hx hb dX1_workOutIn_63 rfl (lv_at hl 0 rfl) ?_
            obtain ⟨hin, hf⟩ := gs_gd_e hf
            refine va_iast hx hb hK hP hD hS 6 4 rfl rfl hin dX1_workOutIn_64 (fun H locs hP hD hS => ?_)
            obtain ⟨σ15, es, hf⟩ := gs_lt_e hf
            have hP : va_P (dC, dI) vwCl (wA h k T σ15) H := by rw [es]; exact hP
            have hD : va_D A (wA h k T σ15) := by rw [es]; exact hD
            clear es
            refine lv_iload_n hx hb dX1_workOutIn_65 rfl (lv_at hl 2 rfl) ?_
            refine lv_iload_n hx hb dX1_workOutIn_66 rfl (lv_at hl 0 rfl) ?_
            obtain ⟨r16, σ17, hc, hf⟩ := gs_ob_e hf
            have hF := u_free hD hS hA
            refine u_calli (va_runS (As := [.int x1, .int r1]) (rest := []) ⟨hx, hb, hml, hown, hts⟩ (ct_X1_place l dC dI h k T σ15 H.size x1 r1 _ hc) (va_cwS 2 hts (gd_S mg_164 mg_165 mg_34 mg_166) rfl rfl rfl (by decide +kernel) ⟨Nat.le_of_ble_eq_true rfl, Nat.le_of_ble_eq_true rfl⟩) (u_preS zA_g hK hP hD hS hF hZ) rfl rfl hl.1 rfl (lv_room (Nat.le_of_ble_eq_true rfl)) dX1_workOutIn_67 ⟨Nat.le_refl _, Nat.le_refl _⟩) hS hF (fun H locs hP hD hS => ?_)
            refine lv_istore_n (lv' := [(3, .int r16), (2, .int r1), (0, .ref (h 1)), (1, .int x1)]) hx hb dX1_workOutIn_70 rfl hl (by decide) rfl (fun ls hl => ?_)
            refine lv_aload_n hx hb dX1_workOutIn_71 rfl (lv_at hl 2 rfl) ?_
            refine va_get (D := (dC, dI)) (ci := 1) (v := .ref (h 4)) (C := RX1) (T := TX1) (N := 7) hx hb hts inG_X1 hown hK hP 1 rfl rfl 3 (by decide) (hts _ mg_60) (fun _ h9 => h9) rfl dX1_workOutIn_72 ?_
            refine lv_iload_n hx hb dX1_workOutIn_75 rfl (lv_at hl 0 rfl) ?_
            refine lv_aload_n hx hb dX1_workOutIn_76 rfl (lv_at hl 2 rfl) ?_
            refine lv_iload_n hx hb dX1_workOutIn_77 rfl (lv_at hl 3 rfl) ?_
            refine lv_iload_n hx hb dX1_workOutIn_78 rfl (lv_at hl 1 rfl) ?_
            obtain ⟨r18, σ19, hc, hf⟩ := gs_ob_e hf
            have hF := u_free hD hS hA
            refine u_calli (va_runV (As := [.int x1, .int r1]) (rest := [.int r16, .ref (h 4)]) ⟨hx, hb, hml, hown, hts⟩ (ct_X1_wordFromOthers l dC dI h k T σ17 H.size x1 r1 _ hc) (cwV 2 hts (gd_V mg_274 mg_275 mg_13 mg_34 mg_276) rfl rfl rfl (by decide +kernel) ⟨Nat.le_of_ble_eq_true rfl, Nat.le_of_ble_eq_true rfl⟩) (u_preV zA_g hK hP hD hS hF hZ (va_recv hK hP (ci := 1) (q0 := 1) rfl rfl)) rfl rfl hl.1 rfl (lv_room (Nat.le_of_ble_eq_true rfl)) dX1_workOutIn_79 ⟨Nat.le_refl _, Nat.le_refl _⟩) hS hF (fun H locs hP hD hS => ?_)
            obtain ⟨hin, hf⟩ := gs_gd_e hf
            refine va_iast hx hb hK hP hD hS 4 2 rfl rfl hin dX1_workOutIn_82 (fun H locs hP hD hS => ?_)
            obtain ⟨σ20, es, hf⟩ := gs_lt_e hf
            have hP : va_P (dC, dI) vwCl (wA h k T σ20) H := by rw [es]; exact hP
            have hD : va_D A (wA h k T σ20) := by rw [es]; exact hD
            clear es
            refine lv_aload_n hx hb dX1_workOutIn_83 rfl (lv_at hl 2 rfl) ?_
            refine va_get (D := (dC, dI)) (ci := 1) (v := .ref (h 5)) (C := RX1) (T := TX1) (N := 7) hx hb hts inG_X1 hown hK hP 1 rfl rfl 4 (by decide) (hts _ mg_61) (fun _ h9 => h9) rfl dX1_workOutIn_84 ?_
            refine lv_iload_n hx hb dX1_workOutIn_87 rfl (lv_at hl 0 rfl) ?_
            refine lv_iconst (v := 0) hx hb dX1_workOutIn_88 (by decide) ?_
            obtain ⟨hin, hf⟩ := gs_gd_e hf
            refine va_zast hx hb hK hP hD hS 5 3 rfl rfl hin dX1_workOutIn_89 (fun H locs hP hD hS => ?_)
            obtain ⟨σ21, es, hf⟩ := gs_lt_e hf
            have hP : va_P (dC, dI) vwCl (wA h k T σ21) H := by rw [es]; exact hP
            have hD : va_D A (wA h k T σ21) := by rw [es]; exact hD
            clear es
            refine lv_iconst (v := 1) hx hb dX1_workOutIn_90 (by decide) ?_
            exact W.zret (v := 1) (ty := .boolean) hx hb hr rfl (fun t ht hW => u_ri (Option.some.inj hf) ht hW hP hK hD hS) hS.2.2 dX1_workOutIn_91
          · have hf := gs_f hf hq
            refine lv_iconst (v := 0) hx hb dX1_workOutIn_56 (by decide) ?_
            exact W.zret (v := 0) (ty := .boolean) hx hb hr rfl (fun t ht hW => u_ri (Option.some.inj hf) ht hW hP hK hD hS) hS.2.2 dX1_workOutIn_57
    · have hf := gs_f hf hq
      refine lv_iconst (v := 0) hx hb dX1_workOutIn_19 (by decide) ?_
      exact W.zret (v := 0) (ty := .boolean) hx hb hr rfl (fun t ht hW => u_ri (Option.some.inj hf) ht hW hP hK hD hS) hS.2.2 dX1_workOutIn_20
set_option maxHeartbeats 4000000 in
set_option maxRecDepth 100000 in
theorem ct_X1_workOut (l : Launch) (dC : Nat → ClassId) (dI : Nat → Nat → Nat) (h : Nat → Nat) (k : Nat → ClassId) (T : Nat) (σ : gS) (sz : Nat) (x1 : Int32) (y : Int32 × gS) (hf : fn_X1_workOut T x1 σ = some y) : Met l yX1_workOut wsX1_workOut ({ frames := 5, cells := 0, slots := 0, locals := 112 }) (va_Pc [.ref (h 1), .int x1] (uPre (dC, dI) vwCl (tA k) (wA h k T) zA σ sz)) (va_Qi (fun r u => (r, u) = y) (uAt (dC, dI) vwCl (tA k) (wA h k T) (va_A (wA h k T σ) sz)) (va_A (wA h k T σ) sz)) 0 0 (va_A (wA h k T σ) sz) := by
  refine Met.ofW (cc := cX1_workOut) (maxL := 4) (ret := (some .int)) (by decide) rfl ?_
  intro p e s m args below meth c s₁ B hml hv
  obtain ⟨rfl, hsz, hP, hK, hD0, hZ⟩ := hv
  have hx := B.exec
  have hb := B.bytes
  have hr := B.returns
  have hts : ∀ w ∈ gG, w.before _ s = true := fun w h => atoms_spec (ws := wsX1_workOut) B.pre w (List.mem_cons_of_mem _ h)
  have hown : s.vm.findClass RX1 = some m.cls := findClass_of_methodNamed B.named
  have hlocks := B.notSynchronized
  subst hsz
  have hD := hD0.self (sz := s.heap.size)
  generalize hAe : va_A (wA h k T σ) s.heap.size = A at hD hZ ⊢
  have hA : ∀ q : Nat, s.heap.size ≤ q → A q := fun q h => by rw [← hAe]; exact Or.inr h
  have hS : va_S A s.heap s.heap [] := va_S.rf
  obtain ⟨t0, hZ0, hT0, hN0⟩ := id hZ
  have L4 : ∀ (n : Nat), ∀ (z1 : Int32) (z2 : Int32) (z3 : Int32) (σ : gS) (H : Heap) (locs : List Loc) (ls : Array Slot), fn_X1_workOut_L4 T n z1 z2 z3 σ = some y → va_P (dC, dI) vwCl (wA h k T σ) H → va_D A (wA h k T σ) → va_S A s.heap H locs → lv_has ls 4 [(0, .ref (h 1)), (1, .int z1), (2, .int z2), (3, .int z3)] → W p l e ({ frames := 5, cells := 0, slots := 0, locals := 112 }) s m ([.ref (h 1), .int x1] : List Value).toArray below meth c H locs 0 0 (MQ below (va_Qi (fun r u => (r, u) = y) (uAt (dC, dI) vwCl (tA k) (wA h k T) A) A) ([.ref (h 1), .int x1] : List Value).toArray s 0 0 A) (F0 m 4 ls []) := by
    intro n
    induction n with
    | zero => intro z1 z2 z3 σ H locs ls hf; exact absurd hf (by rw [fn_X1_workOut_L4]; exact nofun)
    | succ n ih =>
      intro z1 z2 z3 σ H locs ls hf hP hD hS hl
      rw [fn_X1_workOut_L4] at hf
      refine lv_iload_n hx hb dX1_workOut_4 rfl (lv_at hl 3 rfl) ?_
      refine lv_aload_n hx hb dX1_workOut_5 rfl (lv_at hl 0 rfl) ?_
      refine va_get (D := (dC, dI)) (ci := 1) (v := .int (σ 6 0)) (C := RX1) (T := TX1) (N := 7) hx hb hts inG_X1 hown hK hP 1 rfl rfl 0 (by decide) (hts _ mg_57) (fun _ h9 => h9) rfl dX1_workOut_6 ?_
      refine lv_icmp_ge (tgt := 34) hx hb dX1_workOut_9 (by decide) (fun hq => ?_) (fun hq => ?_)
      · have hf := gs_t hf hq
        refine lv_iload_n hx hb dX1_workOut_34 rfl (lv_at hl 2 rfl) ?_
        exact W.iret (v := z2) hx hb hr (fun t ht hW => u_ri (Option.some.inj hf) ht hW hP hK hD hS) hS.2.2 dX1_workOut_35
      · have hf := gs_f hf hq
        refine lv_iload_n hx hb dX1_workOut_12 rfl (lv_at hl 2 rfl) ?_
        refine lv_iload_n hx hb dX1_workOut_13 rfl (lv_at hl 1 rfl) ?_
        refine lv_icmp_ge (tgt := 34) hx hb dX1_workOut_14 (by decide) (fun hq => ?_) (fun hq => ?_)
        · have hf := gs_t hf hq
          refine lv_iload_n hx hb dX1_workOut_34 rfl (lv_at hl 2 rfl) ?_
          exact W.iret (v := z2) hx hb hr (fun t ht hW => u_ri (Option.some.inj hf) ht hW hP hK hD hS) hS.2.2 dX1_workOut_35
        · have hf := gs_f hf hq
          refine lv_aload_n hx hb dX1_workOut_17 rfl (lv_at hl 0 rfl) ?_
          refine lv_iload_n hx hb dX1_workOut_18 rfl (lv_at hl 3 rfl) ?_
          obtain ⟨r1, σ2, hc, hf⟩ := gs_ob_e hf
          have hF := u_free hD hS hA
          refine u_calli (va_runV (As := [.int z3]) (rest := []) ⟨hx, hb, hml, hown, hts⟩ (ct_X1_workOutIn l dC dI h k T σ H.size z3 _ hc) (cwV 1 hts (gd_V mg_267 mg_268 mg_11 mg_34 mg_269) rfl rfl rfl (by decide +kernel) ⟨Nat.le_of_ble_eq_true rfl, Nat.le_of_ble_eq_true rfl⟩) (u_preV zA_g hK hP hD hS hF hZ (va_recv hK hP (ci := 1) (q0 := 1) rfl rfl)) rfl rfl hl.1 rfl (lv_room (Nat.le_of_ble_eq_true rfl)) dX1_workOut_19 ⟨Nat.le_refl _, Nat.le_refl _⟩) hS hF (fun H locs hP hD hS => ?_)
          refine lv_if_eq (tgt := 28) hx hb dX1_workOut_22 (by decide) (fun hq => ?_) (fun hq => ?_)
          · have hf := gs_t hf hq
            refine lv_iinc (v := z3 + 1) (lv' := [(3, .int (z3 + 1)), (0, .ref (h 1)), (1, .int z1), (2, .int z2)]) hx hb dX1_workOut_28 hl (k := 3) rfl rfl (by decide) rfl (fun ls hl => ?_)
            refine lv_goto (tgt := 4) hx hb dX1_workOut_31 (by decide) ?_
            exact ih z1 z2 (z3 + 1) σ2 _ _ _ hf hP hD hS (lv_sub hl [1, 2, 3, 0] rfl)
          · have hf := gs_f hf hq
            refine lv_iinc (v := z2 + 1) (lv' := [(2, .int (z2 + 1)), (0, .ref (h 1)), (1, .int z1), (3, .int z3)]) hx hb dX1_workOut_25 hl (k := 2) rfl rfl (by decide) rfl (fun ls hl => ?_)
            refine lv_iinc (v := z3 + 1) (lv' := [(3, .int (z3 + 1)), (2, .int (z2 + 1)), (0, .ref (h 1)), (1, .int z1)]) hx hb dX1_workOut_28 hl (k := 3) rfl rfl (by decide) rfl (fun ls hl => ?_)
            refine lv_goto (tgt := 4) hx hb dX1_workOut_31 (by decide) ?_
            exact ih z1 (z2 + 1) (z3 + 1) σ2 _ _ _ hf hP hD hS (lv_sub hl [2, 3, 1, 0] rfl)
  have hl := lv_entry ([.ref (h 1), .int x1]) (n := 4) (Nat.le_of_ble_eq_true rfl)
  rw [lg_entry_eq]
  generalize (lg_sl ([.ref (h 1), .int x1]) ++ List.replicate (4 - (lg_sl ([.ref (h 1), .int x1])).length) Slot.unset).toArray = ls at hl ⊢
  have hl : lv_has ls 4 [(0, .ref (h 1)), (1, .int x1)] := hl
  rw [fn_X1_workOut] at hf
  refine lv_iconst (v := 0) hx hb dX1_workOut_0 (by decide) ?_
  refine lv_istore_n (lv' := [(2, .int 0), (0, .ref (h 1)), (1, .int x1)]) hx hb dX1_workOut_1 rfl hl (by decide) rfl (fun ls hl => ?_)
  refine lv_iconst (v := 0) hx hb dX1_workOut_2 (by decide) ?_
  refine lv_istore_n (lv' := [(3, .int 0), (2, .int 0), (0, .ref (h 1)), (1, .int x1)]) hx hb dX1_workOut_3 rfl hl (by decide) rfl (fun ls hl => ?_)
  exact L4 gs_fu x1 0 0 σ _ _ _ hf hP hD hS (lv_sub hl [2, 3, 1, 0] rfl)
set_option maxHeartbeats 4000000 in
set_option maxRecDepth 100000 in
theorem ct_X2_rebuild (l : Launch) (dC : Nat → ClassId) (dI : Nat → Nat → Nat) (h : Nat → Nat) (k : Nat → ClassId) (T : Nat) (σ : gS) (sz : Nat) (x1 : Int32) (y : Int32 × gS) (hf : fn_X2_rebuild T x1 σ = some y) : Met l yX2_rebuild wsX2_rebuild ({ frames := 6, cells := 0, slots := 0, locals := 135 }) (va_Pc [.ref (h 0), .int x1] (uPre (dC, dI) vwCl (tA k) (wA h k T) zA σ sz)) (va_Qi (fun r u => (r, u) = y) (uAt (dC, dI) vwCl (tA k) (wA h k T) (va_A (wA h k T σ) sz)) (va_A (wA h k T σ) sz)) 0 0 (va_A (wA h k T σ) sz) := by
  refine Met.ofW (cc := cX2_rebuild) (maxL := 2) (ret := (some .int)) (by decide) rfl ?_
  intro p e s m args below meth c s₁ B hml hv
  obtain ⟨rfl, hsz, hP, hK, hD0, hZ⟩ := hv
  have hx := B.exec
  have hb := B.bytes
  have hr := B.returns
  have hts : ∀ w ∈ gG, w.before _ s = true := fun w h => atoms_spec (ws := wsX2_rebuild) B.pre w (List.mem_cons_of_mem _ h)
  have hown : s.vm.findClass RX2 = some m.cls := findClass_of_methodNamed B.named
  have hlocks := B.notSynchronized
  subst hsz
  have hD := hD0.self (sz := s.heap.size)
  generalize hAe : va_A (wA h k T σ) s.heap.size = A at hD hZ ⊢
  have hA : ∀ q : Nat, s.heap.size ≤ q → A q := fun q h => by rw [← hAe]; exact Or.inr h
  have hS : va_S A s.heap s.heap [] := va_S.rf
  obtain ⟨t0, hZ0, hT0, hN0⟩ := id hZ
  have hl := lv_entry ([.ref (h 0), .int x1]) (n := 2) (Nat.le_of_ble_eq_true rfl)
  rw [lg_entry_eq]
  generalize (lg_sl ([.ref (h 0), .int x1]) ++ List.replicate (2 - (lg_sl ([.ref (h 0), .int x1])).length) Slot.unset).toArray = ls at hl ⊢
  have hl : lv_has ls 2 [(0, .ref (h 0)), (1, .int x1)] := hl
  rw [fn_X2_rebuild] at hf
  refine lv_iload_n hx hb dX2_rebuild_0 rfl (lv_at hl 1 rfl) ?_
  obtain ⟨r1, σ2, hc, hf⟩ := gs_ob_e hf
  have hF := u_free hD hS hA
  refine u_calli (va_runS (As := [.int x1]) (rest := []) ⟨hx, hb, hml, hown, hts⟩ (ct_X2_isAmount l dC dI h k T σ s.heap.size x1 _ hc) (va_cwS 1 hts (gd_S mg_260 mg_261 mg_32 mg_262) rfl rfl rfl (by decide +kernel) ⟨Nat.le_of_ble_eq_true rfl, Nat.le_of_ble_eq_true rfl⟩) (u_preS zA_g hK hP hD hS hF hZ) rfl rfl hl.1 rfl (lv_room (Nat.le_of_ble_eq_true rfl)) dX2_rebuild_1 ⟨Nat.le_refl _, Nat.le_refl _⟩) hS hF (fun H locs hP hD hS => ?_)
  refine lv_if_eq (tgt := 18) hx hb dX2_rebuild_4 (by decide) (fun hq => ?_) (fun hq => ?_)
  · have hf := gs_t hf hq
    refine lv_iconst (v := (-1)) hx hb dX2_rebuild_18 (by decide) ?_
    exact W.iret (v := (-1)) hx hb hr (fun t ht hW => u_ri (Option.some.inj hf) ht hW hP hK hD hS) hS.2.2 dX2_rebuild_19
  · have hf := gs_f hf hq
    refine lv_aload_n hx hb dX2_rebuild_7 rfl (lv_at hl 0 rfl) ?_
    refine va_get (D := (dC, dI)) (ci := 2) (v := .ref (h 1)) (C := RX2) (T := TX2) (N := 2) hx hb hts inG_X2 hown hK hP 0 rfl rfl 0 (by decide) (hts _ mg_77) (fun _ h9 => h9) rfl dX2_rebuild_8 ?_
    refine lv_iload_n hx hb dX2_rebuild_11 rfl (lv_at hl 1 rfl) ?_
    obtain ⟨r3, σ4, hc, hf⟩ := gs_ob_e hf
    have hF := u_free hD hS hA
    refine u_calli (va_runV (As := [.int x1]) (rest := []) ⟨hx, hb, hml, hown, hts⟩ (ct_X1_workOut l dC dI h k T σ2 H.size x1 _ hc) (cwV 1 hts (gd_V mg_263 mg_264 mg_265 mg_34 mg_266) rfl rfl rfl (by decide +kernel) ⟨Nat.le_of_ble_eq_true rfl, Nat.le_of_ble_eq_true rfl⟩) (u_preV zA_g hK hP hD hS hF hZ (va_recv hK hP (ci := 1) (q0 := 1) rfl rfl)) rfl rfl hl.1 rfl (lv_room (Nat.le_of_ble_eq_true rfl)) dX2_rebuild_12 ⟨Nat.le_refl _, Nat.le_refl _⟩) hS hF (fun H locs hP hD hS => ?_)
    refine lv_goto (tgt := 19) hx hb dX2_rebuild_15 (by decide) ?_
    exact W.iret (v := r3) hx hb hr (fun t ht hW => u_ri (Option.some.inj hf) ht hW hP hK hD hS) hS.2.2 dX2_rebuild_19
