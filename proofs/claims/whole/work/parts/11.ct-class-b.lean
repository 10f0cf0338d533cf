set_option maxHeartbeats 4000000 in
set_option maxRecDepth 100000 in
theorem ct_X0_extentsOf (l : Launch) (dC : Nat → ClassId) (dI : Nat → Nat → Nat) (h : Nat → Nat) (k : Nat → ClassId) (T : Nat) (σ : gS) (sz : Nat) (x1 : Int32) (y : Int32 × gS) (hf : fn_X0_extentsOf T x1 σ = some y) : Met l yX0_extentsOf wsX0_extentsOf ({ frames := 0, cells := 0, slots := 0, locals := 0 }) (va_Pc [.ref (h 7), .int x1] (uPre (dC, dI) vwCl (tA k) (wA h k T) zA σ sz)) (va_Qi (fun r u => (r, u) = y) (uAt (dC, dI) vwCl (tA k) (wA h k T) (va_A (wA h k T σ) sz)) (va_A (wA h k T σ) sz)) 0 0 (va_A (wA h k T σ) sz) := by
  refine Met.ofW (cc := cX0_extentsOf) (maxL := 2) (ret := (some .int)) (by decide) rfl ?_
  intro p e s m args below meth c s₁ B hml hv
  obtain ⟨rfl, hsz, hP, hK, hD0, hZ⟩ := hv
  have hx := B.exec
  have hb := B.bytes
  have hr := B.returns
  have hts : ∀ w ∈ gG, w.before _ s = true := fun w h => atoms_spec (ws := wsX0_extentsOf) B.pre w (List.mem_cons_of_mem _ h)
  have hown : s.vm.findClass RX0 = some m.cls := findClass_of_methodNamed B.named
  have hlocks := B.notSynchronized
  subst hsz
  have hD := hD0.self (sz := s.heap.size)
  generalize hAe : va_A (wA h k T σ) s.heap.size = A at hD hZ ⊢
  have hA : ∀ q : Nat, s.heap.size ≤ q → A q := fun q h => by rw [← hAe]; exact Or.inr h
  have hS : va_S A s.heap s.heap [] := va_S.rf
  obtain ⟨t0, hZ0, hT0, hN0⟩ := id hZ
  have hl := lv_entry ([.ref (h 7), .int x1]) (n := 2) (Nat.le_of_ble_eq_true rfl)
  rw [lg_entry_eq]
  generalize (lg_sl ([.ref (h 7), .int x1]) ++ List.replicate (2 - (lg_sl ([.ref (h 7), .int x1])).length) Slot.unset).toArray = ls at hl ⊢
  have hl : lv_has ls 2 [(0, .ref (h 7)), (1, .int x1)] := hl
  rw [fn_X0_extentsOf] at hf
  refine lv_aload_n hx hb dX0_extentsOf_0 rfl (lv_at hl 0 rfl) ?_
  refine va_get (D := (dC, dI)) (ci := 0) (v := .ref (h 10)) (C := RX0) (T := TX0) (N := 5) hx hb hts inG_X0 hown hK hP 7 rfl rfl 2 (by decide) (hts _ mg_74) (fun _ h9 => h9) rfl dX0_extentsOf_1 ?_
  refine lv_iload_n hx hb dX0_extentsOf_4 rfl (lv_at hl 1 rfl) ?_
  obtain ⟨hin, hf⟩ := gs_gd_e hf
  refine va_iald hx hb hK hP 10 7 rfl rfl hin dX0_extentsOf_5 ?_
  exact W.iret (v := σ 9 x1.toNatClampNeg) hx hb hr (fun t ht hW => u_ri (Option.some.inj hf) ht hW hP hK hD hS) hS.2.2 dX0_extentsOf_6
set_option maxHeartbeats 4000000 in
set_option maxRecDepth 100000 in
theorem ct_X2_create (l : Launch) (dC : Nat → ClassId) (dI : Nat → Nat → Nat) (h : Nat → Nat) (k : Nat → ClassId) (T : Nat) (σ : gS) (sz : Nat) (x1 : Int32) (x2 : Int32) (y : Int32 × gS) (hf : fn_X2_create T x1 x2 σ = some y) : Met l yX2_create wsX2_create ({ frames := 4, cells := 0, slots := 0, locals := 95 }) (va_Pc [.ref (h 0), .int x1, .int x2] (uPre (dC, dI) vwCl (tA k) (wA h k T) zA σ sz)) (va_Qi (fun r u => (r, u) = y) (uAt (dC, dI) vwCl (tA k) (wA h k T) (va_A (wA h k T σ) sz)) (va_A (wA h k T σ) sz)) 0 0 (va_A (wA h k T σ) sz) := by
  refine Met.ofW (cc := cX2_create) (maxL := 3) (ret := (some .int)) (by decide) rfl ?_
  intro p e s m args below meth c s₁ B hml hv
  obtain ⟨rfl, hsz, hP, hK, hD0, hZ⟩ := hv
  have hx := B.exec
  have hb := B.bytes
  have hr := B.returns
  have hts : ∀ w ∈ gG, w.before _ s = true := fun w h => atoms_spec (ws := wsX2_create) B.pre w (List.mem_cons_of_mem _ h)
  have hown : s.vm.findClass RX2 = some m.cls := findClass_of_methodNamed B.named
  have hlocks := B.notSynchronized
  subst hsz
  have hD := hD0.self (sz := s.heap.size)
  generalize hAe : va_A (wA h k T σ) s.heap.size = A at hD hZ ⊢
  have hA : ∀ q : Nat, s.heap.size ≤ q → A q := fun q h => by rw [← hAe]; exact Or.inr h
  have hS : va_S A s.heap s.heap [] := va_S.rf
  obtain ⟨t0, hZ0, hT0, hN0⟩ := id hZ
  have hl := lv_entry ([.ref (h 0), .int x1, .int x2]) (n := 3) (Nat.le_of_ble_eq_true rfl)
  rw [lg_entry_eq]
  generalize (lg_sl ([.ref (h 0), .int x1, .int x2]) ++ List.replicate (3 - (lg_sl ([.ref (h 0), .int x1, .int x2])).length) Slot.unset).toArray = ls at hl ⊢
  have hl : lv_has ls 3 [(0, .ref (h 0)), (1, .int x1), (2, .int x2)] := hl
  rw [fn_X2_create] at hf
  refine lv_iload_n hx hb dX2_create_0 rfl (lv_at hl 1 rfl) ?_
  obtain ⟨r1, σ2, hc, hf⟩ := gs_ob_e hf
  have hF := u_free hD hS hA
  refine u_calli (va_runS (As := [.int x1]) (rest := []) ⟨hx, hb, hml, hown, hts⟩ (ct_X2_isFile l dC dI h k T σ s.heap.size x1 _ hc) (va_cwS 1 hts (gd_S mg_83 mg_84 mg_32 mg_85) rfl rfl rfl (by decide +kernel) ⟨Nat.le_of_ble_eq_true rfl, Nat.le_of_ble_eq_true rfl⟩) (u_preS zA_g hK hP hD hS hF hZ) rfl rfl hl.1 rfl (lv_room (Nat.le_of_ble_eq_true rfl)) dX2_create_1 ⟨Nat.le_refl _, Nat.le_refl _⟩) hS hF (fun H locs hP hD hS => ?_)
  refine lv_if_eq (tgt := 29) hx hb dX2_create_4 (by decide) (fun hq => ?_) (fun hq => ?_)
  · have hf := gs_t hf hq
    refine lv_iconst (v := (-1)) hx hb dX2_create_29 (by decide) ?_
    exact W.iret (v := (-1)) hx hb hr (fun t ht hW => u_ri (Option.some.inj hf) ht hW hP hK hD hS) hS.2.2 dX2_create_30
  · have hf := gs_f hf hq
    refine lv_iload_n hx hb dX2_create_7 rfl (lv_at hl 2 rfl) ?_
    refine lv_iconst (v := 1) hx hb dX2_create_8 (by decide) ?_
    refine lv_icmp_lt (tgt := 29) hx hb dX2_create_9 (by decide) (fun hq => ?_) (fun hq => ?_)
    · have hf := gs_t hf hq
      refine lv_iconst (v := (-1)) hx hb dX2_create_29 (by decide) ?_
      exact W.iret (v := (-1)) hx hb hr (fun t ht hW => u_ri (Option.some.inj hf) ht hW hP hK hD hS) hS.2.2 dX2_create_30
    · have hf := gs_f hf hq
      refine lv_iload_n hx hb dX2_create_12 rfl (lv_at hl 2 rfl) ?_
      refine lv_bipush (v := 63) hx hb dX2_create_13 (by decide) ?_
      refine lv_icmp_gt (tgt := 29) hx hb dX2_create_15 (by decide) (fun hq => ?_) (fun hq => ?_)
      · have hf := gs_t hf hq
        refine lv_iconst (v := (-1)) hx hb dX2_create_29 (by decide) ?_
        exact W.iret (v := (-1)) hx hb hr (fun t ht hW => u_ri (Option.some.inj hf) ht hW hP hK hD hS) hS.2.2 dX2_create_30
      · have hf := gs_f hf hq
        refine lv_aload_n hx hb dX2_create_18 rfl (lv_at hl 0 rfl) ?_
        refine va_get (D := (dC, dI)) (ci := 2) (v := .ref (h 7)) (C := RX2) (T := TX2) (N := 2) hx hb hts inG_X2 hown hK hP 0 rfl rfl 1 (by decide) (hts _ mg_78) (fun _ h9 => h9) rfl dX2_create_19 ?_
        refine lv_iload_n hx hb dX2_create_22 rfl (lv_at hl 1 rfl) ?_
        obtain ⟨r3, σ4, hc, hf⟩ := gs_ob_e hf
        have hF := u_free hD hS hA
        refine u_calli (va_runV (As := [.int x1]) (rest := []) ⟨hx, hb, hml, hown, hts⟩ (ct_X0_isThere l dC dI h k T σ2 H.size x1 _ hc) (cwV 1 hts (gd_V mg_86 mg_87 mg_88 mg_35 mg_89) rfl rfl rfl (by decide +kernel) ⟨Nat.le_of_ble_eq_true rfl, Nat.le_of_ble_eq_true rfl⟩) (u_preV zA_g hK hP hD hS hF hZ (va_recv hK hP (ci := 0) (q0 := 7) rfl rfl)) rfl rfl hl.1 rfl (lv_room (Nat.le_of_ble_eq_true rfl)) dX2_create_23 ⟨Nat.le_refl _, Nat.le_refl _⟩) hS hF (fun H locs hP hD hS => ?_)
        refine lv_if_eq (tgt := 31) hx hb dX2_create_26 (by decide) (fun hq => ?_) (fun hq => ?_)
        · have hf := gs_t hf hq
          refine lv_aload_n hx hb dX2_create_31 rfl (lv_at hl 0 rfl) ?_
          refine va_get (D := (dC, dI)) (ci := 2) (v := .ref (h 7)) (C := RX2) (T := TX2) (N := 2) hx hb hts inG_X2 hown hK hP 0 rfl rfl 1 (by decide) (hts _ mg_78) (fun _ h9 => h9) rfl dX2_create_32 ?_
          refine lv_iload_n hx hb dX2_create_35 rfl (lv_at hl 1 rfl) ?_
          refine lv_iload_n hx hb dX2_create_36 rfl (lv_at hl 2 rfl) ?_
          obtain ⟨r5, σ6, hc, hf⟩ := gs_ob_e hf
          have hF := u_free hD hS hA
          refine u_calli (va_runV (As := [.int x1, .int x2]) (rest := []) ⟨hx, hb, hml, hown, hts⟩ (ct_X0_make l dC dI h k T σ4 H.size x1 x2 _ hc) (cwV 2 hts (gd_V mg_90 mg_91 mg_92 mg_35 mg_93) rfl rfl rfl (by decide +kernel) ⟨Nat.le_of_ble_eq_true rfl, Nat.le_of_ble_eq_true rfl⟩) (u_preV zA_g hK hP hD hS hF hZ (va_recv hK hP (ci := 0) (q0 := 7) rfl rfl)) rfl rfl hl.1 rfl (lv_room (Nat.le_of_ble_eq_true rfl)) dX2_create_37 ⟨Nat.le_refl _, Nat.le_refl _⟩) hS hF (fun H locs hP hD hS => ?_)
          refine lv_if_eq (tgt := 54) hx hb dX2_create_40 (by decide) (fun hq => ?_) (fun hq => ?_)
          · have hf := gs_t hf hq
            refine lv_bipush (v := (-2)) hx hb dX2_create_54 (by decide) ?_
            exact W.iret (v := (-2)) hx hb hr (fun t ht hW => u_ri (Option.some.inj hf) ht hW hP hK hD hS) hS.2.2 dX2_create_56
          · have hf := gs_f hf hq
            refine lv_aload_n hx hb dX2_create_43 rfl (lv_at hl 0 rfl) ?_
            refine va_get (D := (dC, dI)) (ci := 2) (v := .ref (h 7)) (C := RX2) (T := TX2) (N := 2) hx hb hts inG_X2 hown hK hP 0 rfl rfl 1 (by decide) (hts _ mg_78) (fun _ h9 => h9) rfl dX2_create_44 ?_
            refine lv_iload_n hx hb dX2_create_47 rfl (lv_at hl 1 rfl) ?_
            obtain ⟨r7, σ8, hc, hf⟩ := gs_ob_e hf
            have hF := u_free hD hS hA
            refine u_calli (va_runV (As := [.int x1]) (rest := []) ⟨hx, hb, hml, hown, hts⟩ (ct_X0_extentsOf l dC dI h k T σ6 H.size x1 _ hc) (cwV 1 hts (gd_V mg_128 mg_129 mg_130 mg_35 mg_131) rfl rfl rfl (by decide +kernel) ⟨Nat.le_of_ble_eq_true rfl, Nat.le_of_ble_eq_true rfl⟩) (u_preV zA_g hK hP hD hS hF hZ (va_recv hK hP (ci := 0) (q0 := 7) rfl rfl)) rfl rfl hl.1 rfl (lv_room (Nat.le_of_ble_eq_true rfl)) dX2_create_48 ⟨Nat.le_refl _, Nat.le_refl _⟩) hS hF (fun H locs hP hD hS => ?_)
            refine lv_goto (tgt := 56) hx hb dX2_create_51 (by decide) ?_
            exact W.iret (v := r7) hx hb hr (fun t ht hW => u_ri (Option.some.inj hf) ht hW hP hK hD hS) hS.2.2 dX2_create_56
        · have hf := gs_f hf hq
          refine lv_iconst (v := (-1)) hx hb dX2_create_29 (by decide) ?_
          exact W.iret (v := (-1)) hx hb hr (fun t ht hW => u_ri (Option.some.inj hf) ht hW hP hK hD hS) hS.2.2 dX2_create_30
set_option maxHeartbeats 4000000 in
set_option maxRecDepth 100000 in
theorem ct_X2_remove (l : Launch) (dC : Nat → ClassId) (dI : Nat → Nat → Nat) (h : Nat → Nat) (k : Nat → ClassId) (T : Nat) (σ : gS) (sz : Nat) (x1 : Int32) (y : Int32 × gS) (hf : fn_X2_remove T x1 σ = some y) : Met l yX2_remove wsX2_remove ({ frames := 2, cells := 0, slots := 0, locals := 46 }) (va_Pc [.ref (h 0), .int x1] (uPre (dC, dI) vwCl (tA k) (wA h k T) zA σ sz)) (va_Qi (fun r u => (r, u) = y) (uAt (dC, dI) vwCl (tA k) (wA h k T) (va_A (wA h k T σ) sz)) (va_A (wA h k T σ) sz)) 0 0 (va_A (wA h k T σ) sz) := by
  refine Met.ofW (cc := cX2_remove) (maxL := 2) (ret := (some .int)) (by decide) rfl ?_
  intro p e s m args below meth c s₁ B hml hv
  obtain ⟨rfl, hsz, hP, hK, hD0, hZ⟩ := hv
  have hx := B.exec
  have hb := B.bytes
  have hr := B.returns
  have hts : ∀ w ∈ gG, w.before _ s = true := fun w h => atoms_spec (ws := wsX2_remove) B.pre w (List.mem_cons_of_mem _ h)
  have hown : s.vm.findClass RX2 = some m.cls := findClass_of_methodNamed B.named
  have hlocks := B.notSynchronized
  subst hsz
  have hD := hD0.self (sz := s.heap.size)
  generalize hAe : va_A (wA h k T σ) s.heap.size = A at hD hZ ⊢
  have hA : ∀ q : Nat, s.heap.size ≤ q → A q := fun q h => by rw [← hAe]; exact Or.inr h
  have hS : va_S A s.heap s.heap [] := va_S.rf
  obtain ⟨t0, hZ0, hT0, hN0⟩ := id hZ
  have hl := lv_entry ([.ref (h 0), .int x1]) (n := 2) (Nat.le_of_ble_eq_true rfl)
  rw [lg_entry_eq]
  generalize (lg_sl ([.ref (h 0), .int x1]) ++ List.replicate (2 - (lg_sl ([.ref (h 0), .int x1])).length) Slot.unset).toArray = ls at hl ⊢
  have hl : lv_has ls 2 [(0, .ref (h 0)), (1, .int x1)] := hl
  rw [fn_X2_remove] at hf
  refine lv_iload_n hx hb dX2_remove_0 rfl (lv_at hl 1 rfl) ?_
  obtain ⟨r1, σ2, hc, hf⟩ := gs_ob_e hf
  have hF := u_free hD hS hA
  refine u_calli (va_runS (As := [.int x1]) (rest := []) ⟨hx, hb, hml, hown, hts⟩ (ct_X2_isFile l dC dI h k T σ s.heap.size x1 _ hc) (va_cwS 1 hts (gd_S mg_83 mg_84 mg_32 mg_85) rfl rfl rfl (by decide +kernel) ⟨Nat.le_of_ble_eq_true rfl, Nat.le_of_ble_eq_true rfl⟩) (u_preS zA_g hK hP hD hS hF hZ) rfl rfl hl.1 rfl (lv_room (Nat.le_of_ble_eq_true rfl)) dX2_remove_1 ⟨Nat.le_refl _, Nat.le_refl _⟩) hS hF (fun H locs hP hD hS => ?_)
  refine lv_if_eq (tgt := 18) hx hb dX2_remove_4 (by decide) (fun hq => ?_) (fun hq => ?_)
  · have hf := gs_t hf hq
    refine lv_iconst (v := (-1)) hx hb dX2_remove_18 (by decide) ?_
    exact W.iret (v := (-1)) hx hb hr (fun t ht hW => u_ri (Option.some.inj hf) ht hW hP hK hD hS) hS.2.2 dX2_remove_19
  · have hf := gs_f hf hq
    refine lv_aload_n hx hb dX2_remove_7 rfl (lv_at hl 0 rfl) ?_
    refine va_get (D := (dC, dI)) (ci := 2) (v := .ref (h 7)) (C := RX2) (T := TX2) (N := 2) hx hb hts inG_X2 hown hK hP 0 rfl rfl 1 (by decide) (hts _ mg_78) (fun _ h9 => h9) rfl dX2_remove_8 ?_
    refine lv_iload_n hx hb dX2_remove_11 rfl (lv_at hl 1 rfl) ?_
    obtain ⟨r3, σ4, hc, hf⟩ := gs_ob_e hf
    have hF := u_free hD hS hA
    refine u_calli (va_runV (As := [.int x1]) (rest := []) ⟨hx, hb, hml, hown, hts⟩ (ct_X0_isThere l dC dI h k T σ2 H.size x1 _ hc) (cwV 1 hts (gd_V mg_86 mg_87 mg_88 mg_35 mg_89) rfl rfl rfl (by decide +kernel) ⟨Nat.le_of_ble_eq_true rfl, Nat.le_of_ble_eq_true rfl⟩) (u_preV zA_g hK hP hD hS hF hZ (va_recv hK hP (ci := 0) (q0 := 7) rfl rfl)) rfl rfl hl.1 rfl (lv_room (Nat.le_of_ble_eq_true rfl)) dX2_remove_12 ⟨Nat.le_refl _, Nat.le_refl _⟩) hS hF (fun H locs hP hD hS => ?_)
    refine lv_if_ne (tgt := 20) hx hb dX2_remove_15 (by decide) (fun hq => ?_) (fun hq => ?_)
    · have hf := gs_f hf hq
      refine lv_aload_n hx hb dX2_remove_20 rfl (lv_at hl 0 rfl) ?_
      refine va_get (D := (dC, dI)) (ci := 2) (v := .ref (h 7)) (C := RX2) (T := TX2) (N := 2) hx hb hts inG_X2 hown hK hP 0 rfl rfl 1 (by decide) (hts _ mg_78) (fun _ h9 => h9) rfl dX2_remove_21 ?_
      refine lv_iload_n hx hb dX2_remove_24 rfl (lv_at hl 1 rfl) ?_
      obtain ⟨r5, σ6, hc, hf⟩ := gs_ob_e hf
      have hF := u_free hD hS hA
      refine u_callv (va_runV (As := [.int x1]) (rest := []) ⟨hx, hb, hml, hown, hts⟩ (ct_X0_release l dC dI h k T σ4 H.size x1 _ hc) (cwV 1 hts (gd_V mg_136 mg_117 mg_118 mg_35 mg_119) rfl rfl rfl (by decide +kernel) ⟨Nat.le_of_ble_eq_true rfl, Nat.le_of_ble_eq_true rfl⟩) (u_preV zA_g hK hP hD hS hF hZ (va_recv hK hP (ci := 0) (q0 := 7) rfl rfl)) rfl rfl hl.1 rfl (lv_room (Nat.le_of_ble_eq_true rfl)) dX2_remove_25 ⟨Nat.le_refl _, Nat.le_refl _⟩) hS hF (fun H locs hP hD hS => ?_)
      refine lv_iconst (v := 0) hx hb dX2_remove_28 (by decide) ?_
      exact W.iret (v := 0) hx hb hr (fun t ht hW => u_ri (Option.some.inj hf) ht hW hP hK hD hS) hS.2.2 dX2_remove_29
    · have hf := gs_t hf hq
      refine lv_iconst (v := (-1)) hx hb dX2_remove_18 (by decide) ?_
      exact W.iret (v := (-1)) hx hb hr (fun t ht hW => u_ri (Option.some.inj hf) ht hW hP hK hD hS) hS.2.2 dX2_remove_19
set_option maxHeartbeats 4000000 in
set_option maxRecDepth 100000 in
theorem ct_X0_lengthOf (l : Launch) (dC : Nat → ClassId) (dI : Nat → Nat → Nat) (h : Nat → Nat) (k : Nat → ClassId) (T : Nat) (σ : gS) (sz : Nat) (x1 : Int32) (y : Int32 × gS) (hf : fn_X0_lengthOf T x1 σ = some y) : Met l yX0_lengthOf wsX0_lengthOf ({ frames := 0, cells := 0, slots := 0, locals := 0 }) (va_Pc [.ref (h 7), .int x1] (uPre (dC, dI) vwCl (tA k) (wA h k T) zA σ sz)) (va_Qi (fun r u => (r, u) = y) (uAt (dC, dI) vwCl (tA k) (wA h k T) (va_A (wA h k T σ) sz)) (va_A (wA h k T σ) sz)) 0 0 (va_A (wA h k T σ) sz) := by
  refine Met.ofW (cc := cX0_lengthOf) (maxL := 2) (ret := (some .int)) (by decide) rfl ?_
  intro p e s m args below meth c s₁ B hml hv
  obtain ⟨rfl, hsz, hP, hK, hD0, hZ⟩ := hv
  have hx := B.exec
  have hb := B.bytes
  have hr := B.returns
  have hts : ∀ w ∈ gG, w.before _ s = true := fun w h => atoms_spec (ws := wsX0_lengthOf) B.pre w (List.mem_cons_of_mem _ h)
  have hown : s.vm.findClass RX0 = some m.cls := findClass_of_methodNamed B.named
  have hlocks := B.notSynchronized
  subst hsz
  have hD := hD0.self (sz := s.heap.size)
  generalize hAe : va_A (wA h k T σ) s.heap.size = A at hD hZ ⊢
  have hA : ∀ q : Nat, s.heap.size ≤ q → A q := fun q h => by rw [← hAe]; exact Or.inr h
  have hS : va_S A s.heap s.heap [] := va_S.rf
  obtain ⟨t0, hZ0, hT0, hN0⟩ := id hZ
  have hl := lv_entry ([.ref (h 7), .int x1]) (n := 2) (Nat.le_of_ble_eq_true rfl)
  rw [lg_entry_eq]
  generalize (lg_sl ([.ref (h 7), .int x1]) ++ List.replicate (2 - (lg_sl ([.ref (h 7), .int x1])).length) Slot.unset).toArray = ls at hl ⊢
  have hl : lv_has ls 2 [(0, .ref (h 7)), (1, .int x1)] := hl
  rw [fn_X0_lengthOf] at hf
  refine lv_aload_n hx hb dX0_lengthOf_0 rfl (lv_at hl 0 rfl) ?_
  refine va_get (D := (dC, dI)) (ci := 0) (v := .ref (h 9)) (C := RX0) (T := TX0) (N := 5) hx hb hts inG_X0 hown hK hP 7 rfl rfl 1 (by decide) (hts _ mg_73) (fun _ h9 => h9) rfl dX0_lengthOf_1 ?_
  refine lv_iload_n hx hb dX0_lengthOf_4 rfl (lv_at hl 1 rfl) ?_
  obtain ⟨hin, hf⟩ := gs_gd_e hf
  refine va_iald hx hb hK hP 9 6 rfl rfl hin dX0_lengthOf_5 ?_
  exact W.iret (v := σ 8 x1.toNatClampNeg) hx hb hr (fun t ht hW => u_ri (Option.some.inj hf) ht hW hP hK hD hS) hS.2.2 dX0_lengthOf_6
set_option maxHeartbeats 4000000 in
set_option maxRecDepth 100000 in
theorem ct_X0_blockOf (l : Launch) (dC : Nat → ClassId) (dI : Nat → Nat → Nat) (h : Nat → Nat) (k : Nat → ClassId) (T : Nat) (σ : gS) (sz : Nat) (x1 : Int32) (x2 : Int32) (y : Int32 × gS) (hf : fn_X0_blockOf T x1 x2 σ = some y) : Met l yX0_blockOf wsX0_blockOf ({ frames := 1, cells := 0, slots := 0, locals := 22 }) (va_Pc [.ref (h 7), .int x1, .int x2] (uPre (dC, dI) vwCl (tA k) (wA h k T) zA σ sz)) (va_Qi (fun r u => (r, u) = y) (uAt (dC, dI) vwCl (tA k) (wA h k T) (va_A (wA h k T σ) sz)) (va_A (wA h k T σ) sz)) 0 0 (va_A (wA h k T σ) sz) := by
  refine Met.ofW (cc := cX0_blockOf) (maxL := 6) (ret := (some .int)) (by decide) rfl ?_
  intro p e s m args below meth c s₁ B hml hv
  obtain ⟨rfl, hsz, hP, hK, hD0, hZ⟩ := hv
  have hx := B.exec
  have hb := B.bytes
  have hr := B.returns
  have hts : ∀ w ∈ gG, w.before _ s = true := fun w h => atoms_spec (ws := wsX0_blockOf) B.pre w (List.mem_cons_of_mem _ h)
  have hown : s.vm.findClass RX0 = some m.cls := findClass_of_methodNamed B.named
  have hlocks := B.notSynchronized
  subst hsz
  have hD := hD0.self (sz := s.heap.size)
  generalize hAe : va_A (wA h k T σ) s.heap.size = A at hD hZ ⊢
  have hA : ∀ q : Nat, s.heap.size ≤ q → A q := fun q h => by rw [← hAe]; exact Or.inr h
  have hS : va_S A s.heap s.heap [] := va_S.rf
  obtain ⟨t0, hZ0, hT0, hN0⟩ := id hZ
  have L5 : ∀ (n : Nat), ∀ (z1 : Int32) (z2 : Int32) (z3 : Int32) (z4 : Int32) (σ : gS) (H : Heap) (locs : List Loc) (ls : Array Slot), fn_X0_blockOf_L5 T n z1 z2 z3 z4 σ = some y → va_P (dC, dI) vwCl (wA h k T σ) H → va_D A (wA h k T σ) → va_S A s.heap H locs → lv_has ls 6 [(0, .ref (h 7)), (1, .int z1), (2, .int z2), (3, .int z3), (4, .int z4)] → W p l e ({ frames := 1, cells := 0, slots := 0, locals := 22 }) s m ([.ref (h 7), .int x1, .int x2] : List Value).toArray below meth c H locs 0 0 (MQ below (va_Qi (fun r u => (r, u) = y) (uAt (dC, dI) vwCl (tA k) (wA h k T) A) A) ([.ref (h 7), .int x1, .int x2] : List Value).toArray s 0 0 A) (F0 m 5 ls []) := by
    intro n
    induction n with
    | zero => intro z1 z2 z3 z4 σ H locs ls hf; exact absurd hf (by rw [fn_X0_blockOf_L5]; exact nofun)
    | succ n ih =>
      intro z1 z2 z3 z4 σ H locs ls hf hP hD hS hl
      rw [fn_X0_blockOf_L5] at hf
      refine lv_iload hx hb dX0_blockOf_5 (lv_at hl 4 rfl) ?_
      refine lv_aload_n hx hb dX0_blockOf_7 rfl (lv_at hl 0 rfl) ?_
      refine va_get (D := (dC, dI)) (ci := 0) (v := .ref (h 10)) (C := RX0) (T := TX0) (N := 5) hx hb hts inG_X0 hown hK hP 7 rfl rfl 2 (by decide) (hts _ mg_74) (fun _ h9 => h9) rfl dX0_blockOf_8 ?_
      refine lv_iload_n hx hb dX0_blockOf_11 rfl (lv_at hl 1 rfl) ?_
      obtain ⟨hin, hf⟩ := gs_gd_e hf
      refine va_iald hx hb hK hP 10 7 rfl rfl hin dX0_blockOf_12 ?_
      refine lv_icmp_ge (tgt := 60) hx hb dX0_blockOf_13 (by decide) (fun hq => ?_) (fun hq => ?_)
      · have hf := gs_t hf hq
        refine lv_iconst (v := (-1)) hx hb dX0_blockOf_60 (by decide) ?_
        exact W.iret (v := (-1)) hx hb hr (fun t ht hW => u_ri (Option.some.inj hf) ht hW hP hK hD hS) hS.2.2 dX0_blockOf_61
      · have hf := gs_f hf hq
        refine lv_iload_n hx hb dX0_blockOf_16 rfl (lv_at hl 2 rfl) ?_
        refine lv_iload_n hx hb dX0_blockOf_17 rfl (lv_at hl 3 rfl) ?_
        refine lv_isub hx hb dX0_blockOf_18 ?_
        refine lv_istore (lv' := [(5, .int (z2 - z3)), (0, .ref (h 7)), (1, .int z1), (2, .int z2), (3, .int z3), (4, .int z4)]) hx hb dX0_blockOf_19 hl (by decide) rfl (fun ls hl => ?_)
        refine lv_iload hx hb dX0_blockOf_21 (lv_at hl 0 rfl) ?_
        refine lv_aload_n hx hb dX0_blockOf_23 rfl (lv_at hl 1 rfl) ?_
        refine lv_iload_n hx hb dX0_blockOf_24 rfl (lv_at hl 2 rfl) ?_
        refine lv_iload hx hb dX0_blockOf_25 (lv_at hl 5 rfl) ?_
        obtain ⟨r1, σ2, hc, hf⟩ := gs_ob_e hf
        have hF := u_free hD hS hA
        refine u_calli (va_runV (As := [.int z1, .int z4]) (rest := [.int (z2 - z3)]) ⟨hx, hb, hml, hown, hts⟩ (ct_X0_extentSize l dC dI h k T σ H.size z1 z4 _ hc) (cwV 2 hts (gd_V mg_124 mg_125 mg_126 mg_35 mg_127) rfl rfl rfl (by decide +kernel) ⟨Nat.le_of_ble_eq_true rfl, Nat.le_of_ble_eq_true rfl⟩) (u_preV zA_g hK hP hD hS hF hZ (va_recv hK hP (ci := 0) (q0 := 7) rfl rfl)) rfl rfl hl.1 rfl (lv_room (Nat.le_of_ble_eq_true rfl)) dX0_blockOf_27 ⟨Nat.le_refl _, Nat.le_refl _⟩) hS hF (fun H locs hP hD hS => ?_)
        refine lv_icmp_ge (tgt := 44) hx hb dX0_blockOf_30 (by decide) (fun hq => ?_) (fun hq => ?_)
        · have hf := gs_t hf hq
          refine lv_iload_n hx hb dX0_blockOf_44 rfl (lv_at hl 4 rfl) ?_
          refine lv_aload_n hx hb dX0_blockOf_45 rfl (lv_at hl 1 rfl) ?_
          refine lv_iload_n hx hb dX0_blockOf_46 rfl (lv_at hl 2 rfl) ?_
          refine lv_iload hx hb dX0_blockOf_47 (lv_at hl 5 rfl) ?_
          obtain ⟨r3, σ4, hc, hf⟩ := gs_ob_e hf
          have hF := u_free hD hS hA
          refine u_calli (va_runV (As := [.int z1, .int z4]) (rest := [.int z3]) ⟨hx, hb, hml, hown, hts⟩ (ct_X0_extentSize l dC dI h k T σ2 H.size z1 z4 _ hc) (cwV 2 hts (gd_V mg_124 mg_125 mg_126 mg_35 mg_127) rfl rfl rfl (by decide +kernel) ⟨Nat.le_of_ble_eq_true rfl, Nat.le_of_ble_eq_true rfl⟩) (u_preV zA_g hK hP hD hS hF hZ (va_recv hK hP (ci := 0) (q0 := 7) rfl rfl)) rfl rfl hl.1 rfl (lv_room (Nat.le_of_ble_eq_true rfl)) dX0_blockOf_49 ⟨Nat.le_refl _, Nat.le_refl _⟩) hS hF (fun H locs hP hD hS => ?_)
          refine lv_iadd hx hb dX0_blockOf_52 ?_
          refine lv_istore_n (lv' := [(3, .int (z3 + r3)), (5, .int (z2 - z3)), (0, .ref (h 7)), (1, .int z1), (2, .int z2), (4, .int z4)]) hx hb dX0_blockOf_53 rfl hl (by decide) rfl (fun ls hl => ?_)
          refine lv_iinc (v := z4 + 1) (lv' := [(4, .int (z4 + 1)), (3, .int (z3 + r3)), (5, .int (z2 - z3)), (0, .ref (h 7)), (1, .int z1), (2, .int z2)]) hx hb dX0_blockOf_54 hl (k := 5) rfl rfl (by decide) rfl (fun ls hl => ?_)
          refine lv_goto (tgt := 5) hx hb dX0_blockOf_57 (by decide) ?_
          exact ih z1 z2 (z3 + r3) (z4 + 1) σ4 _ _ _ hf hP hD hS (lv_sub hl [3, 4, 5, 1, 0] rfl)
        · have hf := gs_f hf hq
          refine lv_aload_n hx hb dX0_blockOf_33 rfl (lv_at hl 1 rfl) ?_
          refine lv_iload_n hx hb dX0_blockOf_34 rfl (lv_at hl 2 rfl) ?_
          refine lv_iload hx hb dX0_blockOf_35 (lv_at hl 5 rfl) ?_
          obtain ⟨r5, σ6, hc, hf⟩ := gs_ob_e hf
          have hF := u_free hD hS hA
          refine u_calli (va_runV (As := [.int z1, .int z4]) (rest := []) ⟨hx, hb, hml, hown, hts⟩ (ct_X0_extentStart l dC dI h k T σ2 H.size z1 z4 _ hc) (cwV 2 hts (gd_V mg_120 mg_121 mg_122 mg_35 mg_123) rfl rfl rfl (by decide +kernel) ⟨Nat.le_of_ble_eq_true rfl, Nat.le_of_ble_eq_true rfl⟩) (u_preV zA_g hK hP hD hS hF hZ (va_recv hK hP (ci := 0) (q0 := 7) rfl rfl)) rfl rfl hl.1 rfl (lv_room (Nat.le_of_ble_eq_true rfl)) dX0_blockOf_37 ⟨Nat.le_refl _, Nat.le_refl _⟩) hS hF (fun H locs hP hD hS => ?_)
          refine lv_iload hx hb dX0_blockOf_40 (lv_at hl 0 rfl) ?_
          refine lv_iadd hx hb dX0_blockOf_42 ?_
          exact W.iret (v := r5 + (z2 - z3)) hx hb hr (fun t ht hW => u_ri (Option.some.inj hf) ht hW hP hK hD hS) hS.2.2 dX0_blockOf_43
  have hl := lv_entry ([.ref (h 7), .int x1, .int x2]) (n := 6) (Nat.le_of_ble_eq_true rfl)
  rw [lg_entry_eq]
  generalize (lg_sl ([.ref (h 7), .int x1, .int x2]) ++ List.replicate (6 - (lg_sl ([.ref (h 7), .int x1, .int x2])).length) Slot.unset).toArray = ls at hl ⊢
  have hl : lv_has ls 6 [(0, .ref (h 7)), (1, .int x1), (2, .int x2)] := hl
  rw [fn_X0_blockOf] at hf
  refine lv_iconst (v := 0) hx hb dX0_blockOf_0 (by decide) ?_
  refine lv_istore_n (lv' := [(3, .int 0), (0, .ref (h 7)), (1, .int x1), (2, .int x2)]) hx hb dX0_blockOf_1 rfl hl (by decide) rfl (fun ls hl => ?_)
  refine lv_iconst (v := 0) hx hb dX0_blockOf_2 (by decide) ?_
  refine lv_istore (lv' := [(4, .int 0), (3, .int 0), (0, .ref (h 7)), (1, .int x1), (2, .int x2)]) hx hb dX0_blockOf_3 hl (by decide) rfl (fun ls hl => ?_)
  exact L5 gs_fu x1 x2 0 0 σ _ _ _ hf hP hD hS (lv_sub hl [2, 3, 4, 1, 0] rfl)
set_option maxHeartbeats 4000000 in
set_option maxRecDepth 100000 in
theorem ct_X2_blockAt (l : Launch) (dC : Nat → ClassId) (dI : Nat → Nat → Nat) (h : Nat → Nat) (k : Nat → ClassId) (T : Nat) (σ : gS) (sz : Nat) (x1 : Int32) (x2 : Int32) (y : Int32 × gS) (hf : fn_X2_blockAt T x1 x2 σ = some y) : Met l yX2_blockAt wsX2_blockAt ({ frames := 2, cells := 0, slots := 0, locals := 47 }) (va_Pc [.ref (h 0), .int x1, .int x2] (uPre (dC, dI) vwCl (tA k) (wA h k T) zA σ sz)) (va_Qi (fun r u => (r, u) = y) (uAt (dC, dI) vwCl (tA k) (wA h k T) (va_A (wA h k T σ) sz)) (va_A (wA h k T σ) sz)) 0 0 (va_A (wA h k T σ) sz) := by
  refine Met.ofW (cc := cX2_blockAt) (maxL := 3) (ret := (some .int)) (by decide) rfl ?_
  intro p e s m args below meth c s₁ B hml hv
  obtain ⟨rfl, hsz, hP, hK, hD0, hZ⟩ := hv
  have hx := B.exec
  have hb := B.bytes
  have hr := B.returns
  have hts : ∀ w ∈ gG, w.before _ s = true := fun w h => atoms_spec (ws := wsX2_blockAt) B.pre w (List.mem_cons_of_mem _ h)
  have hown : s.vm.findClass RX2 = some m.cls := findClass_of_methodNamed B.named
  have hlocks := B.notSynchronized
  subst hsz
  have hD := hD0.self (sz := s.heap.size)
  generalize hAe : va_A (wA h k T σ) s.heap.size = A at hD hZ ⊢
  have hA : ∀ q : Nat, s.heap.size ≤ q → A q := fun q h => by rw [← hAe]; exact Or.inr h
  have hS : va_S A s.heap s.heap [] := va_S.rf
  obtain ⟨t0, hZ0, hT0, hN0⟩ := id hZ
  have hl := lv_entry ([.ref (h 0), .int x1, .int x2]) (n := 3) (Nat.le_of_ble_eq_true rfl)
  rw [lg_entry_eq]
  generalize (lg_sl ([.ref (h 0), .int x1, .int x2]) ++ List.replicate (3 - (lg_sl ([.ref (h 0), .int x1, .int x2])).length) Slot.unset).toArray = ls at hl ⊢
  have hl : lv_has ls 3 [(0, .ref (h 0)), (1, .int x1), (2, .int x2)] := hl
  rw [fn_X2_blockAt] at hf
  refine lv_iload_n hx hb dX2_blockAt_0 rfl (lv_at hl 1 rfl) ?_
  obtain ⟨r1, σ2, hc, hf⟩ := gs_ob_e hf
  have hF := u_free hD hS hA
  refine u_calli (va_runS (As := [.int x1]) (rest := []) ⟨hx, hb, hml, hown, hts⟩ (ct_X2_isFile l dC dI h k T σ s.heap.size x1 _ hc) (va_cwS 1 hts (gd_S mg_83 mg_84 mg_32 mg_85) rfl rfl rfl (by decide +kernel) ⟨Nat.le_of_ble_eq_true rfl, Nat.le_of_ble_eq_true rfl⟩) (u_preS zA_g hK hP hD hS hF hZ) rfl rfl hl.1 rfl (lv_room (Nat.le_of_ble_eq_true rfl)) dX2_blockAt_1 ⟨Nat.le_refl _, Nat.le_refl _⟩) hS hF (fun H locs hP hD hS => ?_)
  refine lv_if_eq (tgt := 23) hx hb dX2_blockAt_4 (by decide) (fun hq => ?_) (fun hq => ?_)
  · have hf := gs_t hf hq
    refine lv_iconst (v := (-1)) hx hb dX2_blockAt_23 (by decide) ?_
    exact W.iret (v := (-1)) hx hb hr (fun t ht hW => u_ri (Option.some.inj hf) ht hW hP hK hD hS) hS.2.2 dX2_blockAt_24
  · have hf := gs_f hf hq
    refine lv_iload_n hx hb dX2_blockAt_7 rfl (lv_at hl 2 rfl) ?_
    refine lv_if_lt (tgt := 23) hx hb dX2_blockAt_8 (by decide) (fun hq => ?_) (fun hq => ?_)
    · have hf := gs_t hf hq
      refine lv_iconst (v := (-1)) hx hb dX2_blockAt_23 (by decide) ?_
      exact W.iret (v := (-1)) hx hb hr (fun t ht hW => u_ri (Option.some.inj hf) ht hW hP hK hD hS) hS.2.2 dX2_blockAt_24
    · have hf := gs_f hf hq
      refine lv_iload_n hx hb dX2_blockAt_11 rfl (lv_at hl 2 rfl) ?_
      refine lv_aload_n hx hb dX2_blockAt_12 rfl (lv_at hl 0 rfl) ?_
      refine va_get (D := (dC, dI)) (ci := 2) (v := .ref (h 7)) (C := RX2) (T := TX2) (N := 2) hx hb hts inG_X2 hown hK hP 0 rfl rfl 1 (by decide) (hts _ mg_78) (fun _ h9 => h9) rfl dX2_blockAt_13 ?_
      refine lv_iload_n hx hb dX2_blockAt_16 rfl (lv_at hl 1 rfl) ?_
      obtain ⟨r3, σ4, hc, hf⟩ := gs_ob_e hf
      have hF := u_free hD hS hA
      refine u_calli (va_runV (As := [.int x1]) (rest := [.int x2]) ⟨hx, hb, hml, hown, hts⟩ (ct_X0_lengthOf l dC dI h k T σ2 H.size x1 _ hc) (cwV 1 hts (gd_V mg_144 mg_145 mg_146 mg_35 mg_147) rfl rfl rfl (by decide +kernel) ⟨Nat.le_of_ble_eq_true rfl, Nat.le_of_ble_eq_true rfl⟩) (u_preV zA_g hK hP hD hS hF hZ (va_recv hK hP (ci := 0) (q0 := 7) rfl rfl)) rfl rfl hl.1 rfl (lv_room (Nat.le_of_ble_eq_true rfl)) dX2_blockAt_17 ⟨Nat.le_refl _, Nat.le_refl _⟩) hS hF (fun H locs hP hD hS => ?_)
      refine lv_icmp_lt (tgt := 25) hx hb dX2_blockAt_20 (by decide) (fun hq => ?_) (fun hq => ?_)
      · have hf := gs_t hf hq
        refine lv_aload_n hx hb dX2_blockAt_25 rfl (lv_at hl 0 rfl) ?_
        refine va_get (D := (dC, dI)) (ci := 2) (v := .ref (h 7)) (C := RX2) (T := TX2) (N := 2) hx hb hts inG_X2 hown hK hP 0 rfl rfl 1 (by decide) (hts _ mg_78) (fun _ h9 => h9) rfl dX2_blockAt_26 ?_
        refine lv_iload_n hx hb dX2_blockAt_29 rfl (lv_at hl 1 rfl) ?_
        refine lv_iload_n hx hb dX2_blockAt_30 rfl (lv_at hl 2 rfl) ?_
        obtain ⟨r5, σ6, hc, hf⟩ := gs_ob_e hf
        have hF := u_free hD hS hA
        refine u_calli (va_runV (As := [.int x1, .int x2]) (rest := []) ⟨hx, hb, hml, hown, hts⟩ (ct_X0_blockOf l dC dI h k T σ4 H.size x1 x2 _ hc) (cwV 2 hts (gd_V mg_148 mg_149 mg_150 mg_35 mg_151) rfl rfl rfl (by decide +kernel) ⟨Nat.le_of_ble_eq_true rfl, Nat.le_of_ble_eq_true rfl⟩) (u_preV zA_g hK hP hD hS hF hZ (va_recv hK hP (ci := 0) (q0 := 7) rfl rfl)) rfl rfl hl.1 rfl (lv_room (Nat.le_of_ble_eq_true rfl)) dX2_blockAt_31 ⟨Nat.le_refl _, Nat.le_refl _⟩) hS hF (fun H locs hP hD hS => ?_)
        exact W.iret (v := r5) hx hb hr (fun t ht hW => u_ri (Option.some.inj hf) ht hW hP hK hD hS) hS.2.2 dX2_blockAt_34
      · have hf := gs_f hf hq
        refine lv_iconst (v := (-1)) hx hb dX2_blockAt_23 (by decide) ?_
        exact W.iret (v := (-1)) hx hb hr (fun t ht hW => u_ri (Option.some.inj hf) ht hW hP hK hD hS) hS.2.2 dX2_blockAt_24
set_option maxHeartbeats 4000000 in
set_option maxRecDepth 100000 in
theorem ct_X1_place (l : Launch) (dC : Nat → ClassId) (dI : Nat → Nat → Nat) (h : Nat → Nat) (k : Nat → ClassId) (T : Nat) (σ : gS) (sz : Nat) (x0 : Int32) (x1 : Int32) (y : Int32 × gS) (hf : fn_X1_place T x0 x1 σ = some y) : Met l yX1_place wsX1_place ({ frames := 0, cells := 0, slots := 0, locals := 0 }) (va_Pc [.int x0, .int x1] (uPre (dC, dI) vwCl (tA k) (wA h k T) zA σ sz)) (va_Qi (fun r u => (r, u) = y) (uAt (dC, dI) vwCl (tA k) (wA h k T) (va_A (wA h k T σ) sz)) (va_A (wA h k T σ) sz)) 0 0 (va_A (wA h k T σ) sz) := by
  refine Met.ofW (cc := cX1_place) (maxL := 2) (ret := (some .int)) (by decide) rfl ?_
  intro p e s m args below meth c s₁ B hml hv
  obtain ⟨rfl, hsz, hP, hK, hD0, hZ⟩ := hv
  have hx := B.exec
  have hb := B.bytes
  have hr := B.returns
  have hts : ∀ w ∈ gG, w.before _ s = true := fun w h => atoms_spec (ws := wsX1_place) B.pre w (List.mem_cons_of_mem _ h)
  have hown : s.vm.findClass RX1 = some m.cls := findClass_of_methodNamed B.named
  have hlocks := B.notSynchronized
  subst hsz
  have hD := hD0.self (sz := s.heap.size)
  generalize hAe : va_A (wA h k T σ) s.heap.size = A at hD hZ ⊢
  have hA : ∀ q : Nat, s.heap.size ≤ q → A q := fun q h => by rw [← hAe]; exact Or.inr h
  have hS : va_S A s.heap s.heap [] := va_S.rf
  obtain ⟨t0, hZ0, hT0, hN0⟩ := id hZ
  have hl := lv_entry ([.int x0, .int x1]) (n := 2) (Nat.le_of_ble_eq_true rfl)
  rw [lg_entry_eq]
  generalize (lg_sl ([.int x0, .int x1]) ++ List.replicate (2 - (lg_sl ([.int x0, .int x1])).length) Slot.unset).toArray = ls at hl ⊢
  have hl : lv_has ls 2 [(0, .int x0), (1, .int x1)] := hl
  rw [fn_X1_place] at hf
  refine lv_iload_n hx hb dX1_place_0 rfl (lv_at hl 0 rfl) ?_
  refine lv_iconst (v := 4) hx hb dX1_place_1 (by decide) ?_
  refine lv_imul hx hb dX1_place_2 ?_
  refine lv_iload_n hx hb dX1_place_3 rfl (lv_at hl 1 rfl) ?_
  refine lv_iadd hx hb dX1_place_4 ?_
  exact W.iret (v := (x0 * 4) + x1) hx hb hr (fun t ht hW => u_ri (Option.some.inj hf) ht hW hP hK hD hS) hS.2.2 dX1_place_5
set_option maxHeartbeats 4000000 in
set_option maxRecDepth 100000 in
theorem ct_X1_isLost (l : Launch) (dC : Nat → ClassId) (dI : Nat → Nat → Nat) (h : Nat → Nat) (k : Nat → ClassId) (T : Nat) (σ : gS) (sz : Nat) (x1 : Int32) (x2 : Int32) (y : Int32 × gS) (hf : fn_X1_isLost T x1 x2 σ = some y) : Met l yX1_isLost wsX1_isLost ({ frames := 1, cells := 0, slots := 0, locals := 21 }) (va_Pc [.ref (h 1), .int x1, .int x2] (uPre (dC, dI) vwCl (tA k) (wA h k T) zA σ sz)) (va_Qi (fun r u => (r, u) = y) (uAt (dC, dI) vwCl (tA k) (wA h k T) (va_A (wA h k T σ) sz)) (va_A (wA h k T σ) sz)) 0 0 (va_A (wA h k T σ) sz) := by
  refine Met.ofW (cc := cX1_isLost) (maxL := 3) (ret := (some .boolean)) (by decide) rfl ?_
  intro p e s m args below meth c s₁ B hml hv
  obtain ⟨rfl, hsz, hP, hK, hD0, hZ⟩ := hv
  have hx := B.exec
  have hb := B.bytes
  have hr := B.returns
  have hts : ∀ w ∈ gG, w.before _ s = true := fun w h => atoms_spec (ws := wsX1_isLost) B.pre w (List.mem_cons_of_mem _ h)
  have hown : s.vm.findClass RX1 = some m.cls := findClass_of_methodNamed B.named
  have hlocks := B.notSynchronized
  subst hsz
  have hD := hD0.self (sz := s.heap.size)
  generalize hAe : va_A (wA h k T σ) s.heap.size = A at hD hZ ⊢
  have hA : ∀ q : Nat, s.heap.size ≤ q → A q := fun q h => by rw [← hAe]; exact Or.inr h
  have hS : va_S A s.heap s.heap [] := va_S.rf
  obtain ⟨t0, hZ0, hT0, hN0⟩ := id hZ
  have hl := lv_entry ([.ref (h 1), .int x1, .int x2]) (n := 3) (Nat.le_of_ble_eq_true rfl)
  rw [lg_entry_eq]
  generalize (lg_sl ([.ref (h 1), .int x1, .int x2]) ++ List.replicate (3 - (lg_sl ([.ref (h 1), .int x1, .int x2])).length) Slot.unset).toArray = ls at hl ⊢
  have hl : lv_has ls 3 [(0, .ref (h 1)), (1, .int x1), (2, .int x2)] := hl
  rw [fn_X1_isLost] at hf
  refine lv_aload_n hx hb dX1_isLost_0 rfl (lv_at hl 0 rfl) ?_
  refine va_get (D := (dC, dI)) (ci := 1) (v := .ref (h 5)) (C := RX1) (T := TX1) (N := 7) hx hb hts inG_X1 hown hK hP 1 rfl rfl 4 (by decide) (hts _ mg_61) (fun _ h9 => h9) rfl dX1_isLost_1 ?_
  refine lv_iload_n hx hb dX1_isLost_4 rfl (lv_at hl 1 rfl) ?_
  refine lv_iload_n hx hb dX1_isLost_5 rfl (lv_at hl 2 rfl) ?_
  obtain ⟨r1, σ2, hc, hf⟩ := gs_ob_e hf
  have hF := u_free hD hS hA
  refine u_calli (va_runS (As := [.int x1, .int x2]) (rest := [.ref (h 5)]) ⟨hx, hb, hml, hown, hts⟩ (ct_X1_place l dC dI h k T σ s.heap.size x1 x2 _ hc) (va_cwS 2 hts (gd_S mg_164 mg_165 mg_34 mg_166) rfl rfl rfl (by decide +kernel) ⟨Nat.le_of_ble_eq_true rfl, Nat.le_of_ble_eq_true rfl⟩) (u_preS zA_g hK hP hD hS hF hZ) rfl rfl hl.1 rfl (lv_room (Nat.le_of_ble_eq_true rfl)) dX1_isLost_6 ⟨Nat.le_refl _, Nat.le_refl _⟩) hS hF (fun H locs hP hD hS => ?_)
  obtain ⟨hin, hf⟩ := gs_gd_e hf
  refine va_zald hx hb hK hP 5 3 rfl rfl hin dX1_isLost_9 ?_
  obtain ⟨hn, hf⟩ := gs_bz_e hf
  exact W.zret (v := σ2 3 r1.toNatClampNeg) (ty := .boolean) hx hb hr hn (fun t ht hW => u_ri (Option.some.inj hf) ht hW hP hK hD hS) hS.2.2 dX1_isLost_10
set_option maxHeartbeats 4000000 in
set_option maxRecDepth 100000 in
theorem ct_X1_isWrong (l : Launch) (dC : Nat → ClassId) (dI : Nat → Nat → Nat) (h : Nat → Nat) (k : Nat → ClassId) (T : Nat) (σ : gS) (sz : Nat) (x1 : Int32) (x2 : Int32) (y : Int32 × gS) (hf : fn_X1_isWrong T x1 x2 σ = some y) : Met l yX1_isWrong wsX1_isWrong ({ frames := 1, cells := 0, slots := 0, locals := 21 }) (va_Pc [.ref (h 1), .int x1, .int x2] (uPre (dC, dI) vwCl (tA k) (wA h k T) zA σ sz)) (va_Qi (fun r u => (r, u) = y) (uAt (dC, dI) vwCl (tA k) (wA h k T) (va_A (wA h k T σ) sz)) (va_A (wA h k T σ) sz)) 0 0 (va_A (wA h k T σ) sz) := by
  refine Met.ofW (cc := cX1_isWrong) (maxL := 4) (ret := (some .boolean)) (by decide) rfl ?_
  intro p e s m args below meth c s₁ B hml hv
  obtain ⟨rfl, hsz, hP, hK, hD0, hZ⟩ := hv
  have hx := B.exec
  have hb := B.bytes
  have hr := B.returns
  have hts : ∀ w ∈ gG, w.before _ s = true := fun w h => atoms_spec (ws := wsX1_isWrong) B.pre w (List.mem_cons_of_mem _ h)
  have hown : s.vm.findClass RX1 = some m.cls := findClass_of_methodNamed B.named
  have hlocks := B.notSynchronized
  subst hsz
  have hD := hD0.self (sz := s.heap.size)
  generalize hAe : va_A (wA h k T σ) s.heap.size = A at hD hZ ⊢
  have hA : ∀ q : Nat, s.heap.size ≤ q → A q := fun q h => by rw [← hAe]; exact Or.inr h
  have hS : va_S A s.heap s.heap [] := va_S.rf
  obtain ⟨t0, hZ0, hT0, hN0⟩ := id hZ
  have hl := lv_entry ([.ref (h 1), .int x1, .int x2]) (n := 4) (Nat.le_of_ble_eq_true rfl)
  rw [lg_entry_eq]
  generalize (lg_sl ([.ref (h 1), .int x1, .int x2]) ++ List.replicate (4 - (lg_sl ([.ref (h 1), .int x1, .int x2])).length) Slot.unset).toArray = ls at hl ⊢
  have hl : lv_has ls 4 [(0, .ref (h 1)), (1, .int x1), (2, .int x2)] := hl
  rw [fn_X1_isWrong] at hf
  refine lv_iload_n hx hb dX1_isWrong_0 rfl (lv_at hl 1 rfl) ?_
  refine lv_iload_n hx hb dX1_isWrong_1 rfl (lv_at hl 2 rfl) ?_
  obtain ⟨r1, σ2, hc, hf⟩ := gs_ob_e hf
  have hF := u_free hD hS hA
  refine u_calli (va_runS (As := [.int x1, .int x2]) (rest := []) ⟨hx, hb, hml, hown, hts⟩ (ct_X1_place l dC dI h k T σ s.heap.size x1 x2 _ hc) (va_cwS 2 hts (gd_S mg_164 mg_165 mg_34 mg_166) rfl rfl rfl (by decide +kernel) ⟨Nat.le_of_ble_eq_true rfl, Nat.le_of_ble_eq_true rfl⟩) (u_preS zA_g hK hP hD hS hF hZ) rfl rfl hl.1 rfl (lv_room (Nat.le_of_ble_eq_true rfl)) dX1_isWrong_2 ⟨Nat.le_refl _, Nat.le_refl _⟩) hS hF (fun H locs hP hD hS => ?_)
  refine lv_istore_n (lv' := [(3, .int r1), (0, .ref (h 1)), (1, .int x1), (2, .int x2)]) hx hb dX1_isWrong_5 rfl hl (by decide) rfl (fun ls hl => ?_)
  refine lv_aload_n hx hb dX1_isWrong_6 rfl (lv_at hl 1 rfl) ?_
  refine va_get (D := (dC, dI)) (ci := 1) (v := .ref (h 5)) (C := RX1) (T := TX1) (N := 7) hx hb hts inG_X1 hown hK hP 1 rfl rfl 4 (by decide) (hts _ mg_61) (fun _ h9 => h9) rfl dX1_isWrong_7 ?_
  refine lv_iload_n hx hb dX1_isWrong_10 rfl (lv_at hl 0 rfl) ?_
  obtain ⟨hin, hf⟩ := gs_gd_e hf
  refine va_zald hx hb hK hP 5 3 rfl rfl hin dX1_isWrong_11 ?_
  refine lv_if_ne (tgt := 34) hx hb dX1_isWrong_12 (by decide) (fun hq => ?_) (fun hq => ?_)
  · have hf := gs_f hf hq
    refine lv_iconst (v := 0) hx hb dX1_isWrong_34 (by decide) ?_
    exact W.zret (v := 0) (ty := .boolean) hx hb hr rfl (fun t ht hW => u_ri (Option.some.inj hf) ht hW hP hK hD hS) hS.2.2 dX1_isWrong_35
  · have hf := gs_t hf hq
    refine lv_aload_n hx hb dX1_isWrong_15 rfl (lv_at hl 1 rfl) ?_
    refine va_get (D := (dC, dI)) (ci := 1) (v := .ref (h 4)) (C := RX1) (T := TX1) (N := 7) hx hb hts inG_X1 hown hK hP 1 rfl rfl 3 (by decide) (hts _ mg_60) (fun _ h9 => h9) rfl dX1_isWrong_16 ?_
    refine lv_iload_n hx hb dX1_isWrong_19 rfl (lv_at hl 0 rfl) ?_
    obtain ⟨hin, hf⟩ := gs_gd_e hf
    refine va_iald hx hb hK hP 4 2 rfl rfl hin dX1_isWrong_20 ?_
    refine lv_aload_n hx hb dX1_isWrong_21 rfl (lv_at hl 1 rfl) ?_
    refine va_get (D := (dC, dI)) (ci := 1) (v := .ref (h 3)) (C := RX1) (T := TX1) (N := 7) hx hb hts inG_X1 hown hK hP 1 rfl rfl 2 (by decide) (hts _ mg_59) (fun _ h9 => h9) rfl dX1_isWrong_22 ?_
    refine lv_iload_n hx hb dX1_isWrong_25 rfl (lv_at hl 0 rfl) ?_
    obtain ⟨hin, hf⟩ := gs_gd_e hf
    refine va_iald hx hb hK hP 3 1 rfl rfl hin dX1_isWrong_26 ?_
    refine lv_icmp_eq (tgt := 34) hx hb dX1_isWrong_27 (by decide) (fun hq => ?_) (fun hq => ?_)
    · have hf := gs_t hf hq
      refine lv_iconst (v := 0) hx hb dX1_isWrong_34 (by decide) ?_
      exact W.zret (v := 0) (ty := .boolean) hx hb hr rfl (fun t ht hW => u_ri (Option.some.inj hf) ht hW hP hK hD hS) hS.2.2 dX1_isWrong_35
    · have hf := gs_f hf hq
      refine lv_iconst (v := 1) hx hb dX1_isWrong_30 (by decide) ?_
      refine lv_goto (tgt := 35) hx hb dX1_isWrong_31 (by decide) ?_
      exact W.zret (v := 1) (ty := .boolean) hx hb hr rfl (fun t ht hW => u_ri (Option.some.inj hf) ht hW hP hK hD hS) hS.2.2 dX1_isWrong_35
set_option maxHeartbeats 4000000 in
set_option maxRecDepth 100000 in
theorem ct_X1_isBad (l : Launch) (dC : Nat → ClassId) (dI : Nat → Nat → Nat) (h : Nat → Nat) (k : Nat → ClassId) (T : Nat) (σ : gS) (sz : Nat) (x1 : Int32) (x2 : Int32) (y : Int32 × gS) (hf : fn_X1_isBad T x1 x2 σ = some y) : Met l yX1_isBad wsX1_isBad ({ frames := 2, cells := 0, slots := 0, locals := 44 }) (va_Pc [.ref (h 1), .int x1, .int x2] (uPre (dC, dI) vwCl (tA k) (wA h k T) zA σ sz)) (va_Qi (fun r u => (r, u) = y) (uAt (dC, dI) vwCl (tA k) (wA h k T) (va_A (wA h k T σ) sz)) (va_A (wA h k T σ) sz)) 0 0 (va_A (wA h k T σ) sz) := by
  refine Met.ofW (cc := cX1_isBad) (maxL := 3) (ret := (some .boolean)) (by decide) rfl ?_
  intro p e s m args below meth c s₁ B hml hv
  obtain ⟨rfl, hsz, hP, hK, hD0, hZ⟩ := hv
  have hx := B.exec
  have hb := B.bytes
  have hr := B.returns
  have hts : ∀ w ∈ gG, w.before _ s = true := fun w h => atoms_spec (ws := wsX1_isBad) B.pre w (List.mem_cons_of_mem _ h)
  have hown : s.vm.findClass RX1 = some m.cls := findClass_of_methodNamed B.named
  have hlocks := B.notSynchronized
  subst hsz
  have hD := hD0.self (sz := s.heap.size)
  generalize hAe : va_A (wA h k T σ) s.heap.size = A at hD hZ ⊢
  have hA : ∀ q : Nat, s.heap.size ≤ q → A q := fun q h => by rw [← hAe]; exact Or.inr h
  have hS : va_S A s.heap s.heap [] := va_S.rf
  obtain ⟨t0, hZ0, hT0, hN0⟩ := id hZ
  have hl := lv_entry ([.ref (h 1), .int x1, .int x2]) (n := 3) (Nat.le_of_ble_eq_true rfl)
  rw [lg_entry_eq]
  generalize (lg_sl ([.ref (h 1), .int x1, .int x2]) ++ List.replicate (3 - (lg_sl ([.ref (h 1), .int x1, .int x2])).length) Slot.unset).toArray = ls at hl ⊢
  have hl : lv_has ls 3 [(0, .ref (h 1)), (1, .int x1), (2, .int x2)] := hl
  rw [fn_X1_isBad] at hf
  refine lv_aload_n hx hb dX1_isBad_0 rfl (lv_at hl 0 rfl) ?_
  refine lv_iload_n hx hb dX1_isBad_1 rfl (lv_at hl 1 rfl) ?_
  refine lv_iload_n hx hb dX1_isBad_2 rfl (lv_at hl 2 rfl) ?_
  obtain ⟨r1, σ2, hc, hf⟩ := gs_ob_e hf
  have hF := u_free hD hS hA
  refine u_calli (va_runV (As := [.int x1, .int x2]) (rest := []) ⟨hx, hb, hml, hown, hts⟩ (ct_X1_isLost l dC dI h k T σ s.heap.size x1 x2 _ hc) (cwV 2 hts (gd_V mg_160 mg_161 mg_162 mg_34 mg_163) rfl rfl rfl (by decide +kernel) ⟨Nat.le_of_ble_eq_true rfl, Nat.le_of_ble_eq_true rfl⟩) (u_preV zA_g hK hP hD hS hF hZ (va_recv hK hP (ci := 1) (q0 := 1) rfl rfl)) rfl rfl hl.1 rfl (lv_room (Nat.le_of_ble_eq_true rfl)) dX1_isBad_3 ⟨Nat.le_refl _, Nat.le_refl _⟩) hS hF (fun H locs hP hD hS => ?_)
  refine lv_if_ne (tgt := 18) hx hb dX1_isBad_6 (by decide) (fun hq => ?_) (fun hq => ?_)
  · have hf := gs_f hf hq
    refine lv_iconst (v := 1) hx hb dX1_isBad_18 (by decide) ?_
    refine lv_goto (tgt := 23) hx hb dX1_isBad_19 (by decide) ?_
    exact W.zret (v := 1) (ty := .boolean) hx hb hr rfl (fun t ht hW => u_ri (Option.some.inj hf) ht hW hP hK hD hS) hS.2.2 dX1_isBad_23
  · have hf := gs_t hf hq
    refine lv_aload_n hx hb dX1_isBad_9 rfl (lv_at hl 0 rfl) ?_
    refine lv_iload_n hx hb dX1_isBad_10 rfl (lv_at hl 1 rfl) ?_
    refine lv_iload_n hx hb dX1_isBad_11 rfl (lv_at hl 2 rfl) ?_
    obtain ⟨r3, σ4, hc, hf⟩ := gs_ob_e hf
    have hF := u_free hD hS hA
    refine u_calli (va_runV (As := [.int x1, .int x2]) (rest := []) ⟨hx, hb, hml, hown, hts⟩ (ct_X1_isWrong l dC dI h k T σ2 H.size x1 x2 _ hc) (cwV 2 hts (gd_V mg_167 mg_168 mg_169 mg_34 mg_170) rfl rfl rfl (by decide +kernel) ⟨Nat.le_of_ble_eq_true rfl, Nat.le_of_ble_eq_true rfl⟩) (u_preV zA_g hK hP hD hS hF hZ (va_recv hK hP (ci := 1) (q0 := 1) rfl rfl)) rfl rfl hl.1 rfl (lv_room (Nat.le_of_ble_eq_true rfl)) dX1_isBad_12 ⟨Nat.le_refl _, Nat.le_refl _⟩) hS hF (fun H locs hP hD hS => ?_)
    refine lv_if_eq (tgt := 22) hx hb dX1_isBad_15 (by decide) (fun hq => ?_) (fun hq => ?_)
    · have hf := gs_t hf hq
      refine lv_iconst (v := 0) hx hb dX1_isBad_22 (by decide) ?_
      exact W.zret (v := 0) (ty := .boolean) hx hb hr rfl (fun t ht hW => u_ri (Option.some.inj hf) ht hW hP hK hD hS) hS.2.2 dX1_isBad_23
    · have hf := gs_f hf hq
      refine lv_iconst (v := 1) hx hb dX1_isBad_18 (by decide) ?_
      refine lv_goto (tgt := 23) hx hb dX1_isBad_19 (by decide) ?_
      exact W.zret (v := 1) (ty := .boolean) hx hb hr rfl (fun t ht hW => u_ri (Option.some.inj hf) ht hW hP hK hD hS) hS.2.2 dX1_isBad_23
set_option maxHeartbeats 4000000 in
set_option maxRecDepth 100000 in
theorem ct_X1_isBroken (l : Launch) (dC : Nat → ClassId) (dI : Nat → Nat → Nat) (h : Nat → Nat) (k : Nat → ClassId) (T : Nat) (σ : gS) (sz : Nat) (x1 : Int32) (y : Int32 × gS) (hf : fn_X1_isBroken T x1 σ = some y) : Met l yX1_isBroken wsX1_isBroken ({ frames := 3, cells := 0, slots := 0, locals := 66 }) (va_Pc [.ref (h 1), .int x1] (uPre (dC, dI) vwCl (tA k) (wA h k T) zA σ sz)) (va_Qi (fun r u => (r, u) = y) (uAt (dC, dI) vwCl (tA k) (wA h k T) (va_A (wA h k T σ) sz)) (va_A (wA h k T σ) sz)) 0 0 (va_A (wA h k T σ) sz) := by
  refine Met.ofW (cc := cX1_isBroken) (maxL := 4) (ret := (some .boolean)) (by decide) rfl ?_
  intro p e s m args below meth c s₁ B hml hv
  obtain ⟨rfl, hsz, hP, hK, hD0, hZ⟩ := hv
  have hx := B.exec
  have hb := B.bytes
  have hr := B.returns
  have hts : ∀ w ∈ gG, w.before _ s = true := fun w h => atoms_spec (ws := wsX1_isBroken) B.pre w (List.mem_cons_of_mem _ h)
  have hown : s.vm.findClass RX1 = some m.cls := findClass_of_methodNamed B.named
  have hlocks := B.notSynchronized
  subst hsz
  have hD := hD0.self (sz := s.heap.size)
  generalize hAe : va_A (wA h k T σ) s.heap.size = A at hD hZ ⊢
  have hA : ∀ q : Nat, s.heap.size ≤ q → A q := fun q h => by rw [← hAe]; exact Or.inr h
  have hS : va_S A s.heap s.heap [] := va_S.rf
  obtain ⟨t0, hZ0, hT0, hN0⟩ := id hZ
  have L4 : ∀ (n : Nat), ∀ (z1 : Int32) (z2 : Int32) (z3 : Int32) (σ : gS) (H : Heap) (locs : List Loc) (ls : Array Slot), fn_X1_isBroken_L4 T n z1 z2 z3 σ = some y → va_P (dC, dI) vwCl (wA h k T σ) H → va_D A (wA h k T σ) → va_S A s.heap H locs → lv_has ls 4 [(0, .ref (h 1)), (1, .int z1), (2, .int z2), (3, .int z3)] → W p l e ({ frames := 3, cells := 0, slots := 0, locals := 66 }) s m ([.ref (h 1), .int x1] : List Value).toArray below meth c H locs 0 0 (MQ below (va_Qi (fun r u => (r, u) = y) (uAt (dC, dI) vwCl (tA k) (wA h k T) A) A) ([.ref (h 1), .int x1] : List Value).toArray s 0 0 A) (F0 m 4 ls []) := by
    intro n
    induction n with
    | zero => intro z1 z2 z3 σ H locs ls hf; exact absurd hf (by rw [fn_X1_isBroken_L4]; exact nofun)
    | succ n ih =>
      intro z1 z2 z3 σ H locs ls hf hP hD hS hl
      rw [fn_X1_isBroken_L4] at hf
      refine lv_iload_n hx hb dX1_isBroken_4 rfl (lv_at hl 3 rfl) ?_
      refine lv_iconst (v := 4) hx hb dX1_isBroken_5 (by decide) ?_
      refine lv_icmp_ge (tgt := 27) hx hb dX1_isBroken_6 (by decide) (fun hq => ?_) (fun hq => ?_)
      · have hf := gs_t hf hq
        refine lv_iload_n hx hb dX1_isBroken_27 rfl (lv_at hl 2 rfl) ?_
        refine lv_iconst (v := 2) hx hb dX1_isBroken_28 (by decide) ?_
        refine lv_icmp_lt (tgt := 36) hx hb dX1_isBroken_29 (by decide) (fun hq => ?_) (fun hq => ?_)
        · have hf := gs_t hf hq
          refine lv_iconst (v := 0) hx hb dX1_isBroken_36 (by decide) ?_
          exact W.zret (v := 0) (ty := .boolean) hx hb hr rfl (fun t ht hW => u_ri (Option.some.inj hf) ht hW hP hK hD hS) hS.2.2 dX1_isBroken_37
        · have hf := gs_f hf hq
          refine lv_iconst (v := 1) hx hb dX1_isBroken_32 (by decide) ?_
          refine lv_goto (tgt := 37) hx hb dX1_isBroken_33 (by decide) ?_
          exact W.zret (v := 1) (ty := .boolean) hx hb hr rfl (fun t ht hW => u_ri (Option.some.inj hf) ht hW hP hK hD hS) hS.2.2 dX1_isBroken_37
      · have hf := gs_f hf hq
        refine lv_aload_n hx hb dX1_isBroken_9 rfl (lv_at hl 0 rfl) ?_
        refine lv_iload_n hx hb dX1_isBroken_10 rfl (lv_at hl 1 rfl) ?_
        refine lv_iload_n hx hb dX1_isBroken_11 rfl (lv_at hl 3 rfl) ?_
        obtain ⟨r1, σ2, hc, hf⟩ := gs_ob_e hf
        have hF := u_free hD hS hA
        refine u_calli (va_runV (As := [.int z1, .int z3]) (rest := []) ⟨hx, hb, hml, hown, hts⟩ (ct_X1_isBad l dC dI h k T σ H.size z1 z3 _ hc) (cwV 2 hts (gd_V mg_156 mg_157 mg_158 mg_34 mg_159) rfl rfl rfl (by decide +kernel) ⟨Nat.le_of_ble_eq_true rfl, Nat.le_of_ble_eq_true rfl⟩) (u_preV zA_g hK hP hD hS hF hZ (va_recv hK hP (ci := 1) (q0 := 1) rfl rfl)) rfl rfl hl.1 rfl (lv_room (Nat.le_of_ble_eq_true rfl)) dX1_isBroken_12 ⟨Nat.le_refl _, Nat.le_refl _⟩) hS hF (fun H locs hP hD hS => ?_)
        refine lv_if_eq (tgt := 21) hx hb dX1_isBroken_15 (by decide) (fun hq => ?_) (fun hq => ?_)
        · have hf := gs_t hf hq
          refine lv_iinc (v := z3 + 1) (lv' := [(3, .int (z3 + 1)), (0, .ref (h 1)), (1, .int z1), (2, .int z2)]) hx hb dX1_isBroken_21 hl (k := 3) rfl rfl (by decide) rfl (fun ls hl => ?_)
          refine lv_goto (tgt := 4) hx hb dX1_isBroken_24 (by decide) ?_
          exact ih z1 z2 (z3 + 1) σ2 _ _ _ hf hP hD hS (lv_sub hl [1, 2, 3, 0] rfl)
        · have hf := gs_f hf hq
          refine lv_iinc (v := z2 + 1) (lv' := [(2, .int (z2 + 1)), (0, .ref (h 1)), (1, .int z1), (3, .int z3)]) hx hb dX1_isBroken_18 hl (k := 2) rfl rfl (by decide) rfl (fun ls hl => ?_)
          refine lv_iinc (v := z3 + 1) (lv' := [(3, .int (z3 + 1)), (2, .int (z2 + 1)), (0, .ref (h 1)), (1, .int z1)]) hx hb dX1_isBroken_21 hl (k := 3) rfl rfl (by decide) rfl (fun ls hl => ?_)
          refine lv_goto (tgt := 4) hx hb dX1_isBroken_24 (by decide) ?_
          exact ih z1 (z2 + 1) (z3 + 1) σ2 _ _ _ hf hP hD hS (lv_sub hl [2, 3, 1, 0] rfl)
  have hl := lv_entry ([.ref (h 1), .int x1]) (n := 4) (Nat.le_of_ble_eq_true rfl)
  rw [lg_entry_eq]
  generalize (lg_sl ([.ref (h 1), .int x1]) ++ List.replicate (4 - (lg_sl ([.ref (h 1), .int x1])).length) Slot.unset).toArray = ls at hl ⊢
  have hl : lv_has ls 4 [(0, .ref (h 1)), (1, .int x1)] := hl
  rw [fn_X1_isBroken] at hf
  refine lv_iconst (v := 0) hx hb dX1_isBroken_0 (by decide) ?_
  refine lv_istore_n (lv' := [(2, .int 0), (0, .ref (h 1)), (1, .int x1)]) hx hb dX1_isBroken_1 rfl hl (by decide) rfl (fun ls hl => ?_)
  refine lv_iconst (v := 0) hx hb dX1_isBroken_2 (by decide) ?_
  refine lv_istore_n (lv' := [(3, .int 0), (2, .int 0), (0, .ref (h 1)), (1, .int x1)]) hx hb dX1_isBroken_3 rfl hl (by decide) rfl (fun ls hl => ?_)
  exact L4 gs_fu x1 0 0 σ _ _ _ hf hP hD hS (lv_sub hl [2, 3, 1, 0] rfl)
set_option maxHeartbeats 4000000 in
set_option maxRecDepth 100000 in
theorem ct_X1_mend (l : Launch) (dC : Nat → ClassId) (dI : Nat → Nat → Nat) (h : Nat → Nat) (k : Nat → ClassId) (T : Nat) (σ : gS) (sz : Nat) (x1 : Int32) (x2 : Int32) (y : Int32 × gS) (hf : fn_X1_mend T x1 x2 σ = some y) : Met l yX1_mend wsX1_mend ({ frames := 2, cells := 0, slots := 0, locals := 44 }) (va_Pc [.ref (h 1), .int x1, .int x2] (uPre (dC, dI) vwCl (tA k) (wA h k T) zA σ sz)) (va_Qi (fun r u => (r, u) = y) (uAt (dC, dI) vwCl (tA k) (wA h k T) (va_A (wA h k T σ) sz)) (va_A (wA h k T σ) sz)) 0 0 (va_A (wA h k T σ) sz) := by
  refine Met.ofW (cc := cX1_mend) (maxL := 4) (ret := (some .boolean)) (by decide) rfl ?_
  intro p e s m args below meth c s₁ B hml hv
  obtain ⟨rfl, hsz, hP, hK, hD0, hZ⟩ := hv
  have hx := B.exec
  have hb := B.bytes
  have hr := B.returns
  have hts : ∀ w ∈ gG, w.before _ s = true := fun w h => atoms_spec (ws := wsX1_mend) B.pre w (List.mem_cons_of_mem _ h)
  have hown : s.vm.findClass RX1 = some m.cls := findClass_of_methodNamed B.named
  have hlocks := B.notSynchronized
  subst hsz
  have hD := hD0.self (sz := s.heap.size)
  generalize hAe : va_A (wA h k T σ) s.heap.size = A at hD hZ ⊢
  have hA : ∀ q : Nat, s.heap.size ≤ q → A q := fun q h => by rw [← hAe]; exact Or.inr h
  have hS : va_S A s.heap s.heap [] := va_S.rf
  obtain ⟨t0, hZ0, hT0, hN0⟩ := id hZ
  have hl := lv_entry ([.ref (h 1), .int x1, .int x2]) (n := 4) (Nat.le_of_ble_eq_true rfl)
  rw [lg_entry_eq]
  generalize (lg_sl ([.ref (h 1), .int x1, .int x2]) ++ List.replicate (4 - (lg_sl ([.ref (h 1), .int x1, .int x2])).length) Slot.unset).toArray = ls at hl ⊢
  have hl : lv_has ls 4 [(0, .ref (h 1)), (1, .int x1), (2, .int x2)] := hl
  rw [fn_X1_mend] at hf
  refine lv_aload_n hx hb dX1_mend_0 rfl (lv_at hl 0 rfl) ?_
  refine lv_iload_n hx hb dX1_mend_1 rfl (lv_at hl 1 rfl) ?_
  refine lv_iload_n hx hb dX1_mend_2 rfl (lv_at hl 2 rfl) ?_
  obtain ⟨r1, σ2, hc, hf⟩ := gs_ob_e hf
  have hF := u_free hD hS hA
  refine u_calli (va_runV (As := [.int x1, .int x2]) (rest := []) ⟨hx, hb, hml, hown, hts⟩ (ct_X1_isWrong l dC dI h k T σ s.heap.size x1 x2 _ hc) (cwV 2 hts (gd_V mg_167 mg_168 mg_169 mg_34 mg_170) rfl rfl rfl (by decide +kernel) ⟨Nat.le_of_ble_eq_true rfl, Nat.le_of_ble_eq_true rfl⟩) (u_preV zA_g hK hP hD hS hF hZ (va_recv hK hP (ci := 1) (q0 := 1) rfl rfl)) rfl rfl hl.1 rfl (lv_room (Nat.le_of_ble_eq_true rfl)) dX1_mend_3 ⟨Nat.le_refl _, Nat.le_refl _⟩) hS hF (fun H locs hP hD hS => ?_)
  refine lv_if_ne (tgt := 11) hx hb dX1_mend_6 (by decide) (fun hq => ?_) (fun hq => ?_)
  · have hf := gs_f hf hq
    refine lv_iload_n hx hb dX1_mend_11 rfl (lv_at hl 1 rfl) ?_
    refine lv_iload_n hx hb dX1_mend_12 rfl (lv_at hl 2 rfl) ?_
    obtain ⟨r3, σ4, hc, hf⟩ := gs_ob_e hf
    have hF := u_free hD hS hA
    refine u_calli (va_runS (As := [.int x1, .int x2]) (rest := []) ⟨hx, hb, hml, hown, hts⟩ (ct_X1_place l dC dI h k T σ2 H.size x1 x2 _ hc) (va_cwS 2 hts (gd_S mg_164 mg_165 mg_34 mg_166) rfl rfl rfl (by decide +kernel) ⟨Nat.le_of_ble_eq_true rfl, Nat.le_of_ble_eq_true rfl⟩) (u_preS zA_g hK hP hD hS hF hZ) rfl rfl hl.1 rfl (lv_room (Nat.le_of_ble_eq_true rfl)) dX1_mend_13 ⟨Nat.le_refl _, Nat.le_refl _⟩) hS hF (fun H locs hP hD hS => ?_)
    refine lv_istore_n (lv' := [(3, .int r3), (0, .ref (h 1)), (1, .int x1), (2, .int x2)]) hx hb dX1_mend_16 rfl hl (by decide) rfl (fun ls hl => ?_)
    refine lv_aload_n hx hb dX1_mend_17 rfl (lv_at hl 1 rfl) ?_
    refine va_get (D := (dC, dI)) (ci := 1) (v := .ref (h 4)) (C := RX1) (T := TX1) (N := 7) hx hb hts inG_X1 hown hK hP 1 rfl rfl 3 (by decide) (hts _ mg_60) (fun _ h9 => h9) rfl dX1_mend_18 ?_
    refine lv_iload_n hx hb dX1_mend_21 rfl (lv_at hl 0 rfl) ?_
    refine lv_aload_n hx hb dX1_mend_22 rfl (lv_at hl 1 rfl) ?_
    refine va_get (D := (dC, dI)) (ci := 1) (v := .ref (h 3)) (C := RX1) (T := TX1) (N := 7) hx hb hts inG_X1 hown hK hP 1 rfl rfl 2 (by decide) (hts _ mg_59) (fun _ h9 => h9) rfl dX1_mend_23 ?_
    refine lv_iload_n hx hb dX1_mend_26 rfl (lv_at hl 0 rfl) ?_
    obtain ⟨hin, hf⟩ := gs_gd_e hf
    refine va_iald hx hb hK hP 3 1 rfl rfl hin dX1_mend_27 ?_
    obtain ⟨hin, hf⟩ := gs_gd_e hf
    refine va_iast hx hb hK hP hD hS 4 2 rfl rfl hin dX1_mend_28 (fun H locs hP hD hS => ?_)
    obtain ⟨σ5, es, hf⟩ := gs_lt_e hf
    have hP : va_P (dC, dI) vwCl (wA h k T σ5) H := by rw [es]; exact hP
    have hD : va_D A (wA h k T σ5) := by rw [es]; exact hD
    clear es
    refine lv_iconst (v := 1) hx hb dX1_mend_29 (by decide) ?_
    exact W.zret (v := 1) (ty := .boolean) hx hb hr rfl (fun t ht hW => u_ri (Option.some.inj hf) ht hW hP hK hD hS) hS.2.2 dX1_mend_30
  · have hf := gs_t hf hq
    refine lv_iconst (v := 0) hx hb dX1_mend_9 (by decide) ?_
    exact W.zret (v := 0) (ty := .boolean) hx hb hr rfl (fun t ht hW => u_ri (Option.some.inj hf) ht hW hP hK hD hS) hS.2.2 dX1_mend_10
set_option maxHeartbeats 4000000 in
set_option maxRecDepth 100000 in
theorem ct_X1_mendAll (l : Launch) (dC : Nat → ClassId) (dI : Nat → Nat → Nat) (h : Nat → Nat) (k : Nat → ClassId) (T : Nat) (σ : gS) (sz : Nat) (x1 : Int32) (y : Int32 × gS) (hf : fn_X1_mendAll T x1 σ = some y) : Met l yX1_mendAll wsX1_mendAll ({ frames := 3, cells := 0, slots := 0, locals := 67 }) (va_Pc [.ref (h 1), .int x1] (uPre (dC, dI) vwCl (tA k) (wA h k T) zA σ sz)) (va_Qi (fun r u => (r, u) = y) (uAt (dC, dI) vwCl (tA k) (wA h k T) (va_A (wA h k T σ) sz)) (va_A (wA h k T σ) sz)) 0 0 (va_A (wA h k T σ) sz) := by
  refine Met.ofW (cc := cX1_mendAll) (maxL := 4) (ret := (some .int)) (by decide) rfl ?_
  intro p e s m args below meth c s₁ B hml hv
  obtain ⟨rfl, hsz, hP, hK, hD0, hZ⟩ := hv
  have hx := B.exec
  have hb := B.bytes
  have hr := B.returns
  have hts : ∀ w ∈ gG, w.before _ s = true := fun w h => atoms_spec (ws := wsX1_mendAll) B.pre w (List.mem_cons_of_mem _ h)
  have hown : s.vm.findClass RX1 = some m.cls := findClass_of_methodNamed B.named
  have hlocks := B.notSynchronized
  subst hsz
  have hD := hD0.self (sz := s.heap.size)
  generalize hAe : va_A (wA h k T σ) s.heap.size = A at hD hZ ⊢
  have hA : ∀ q : Nat, s.heap.size ≤ q → A q := fun q h => by rw [← hAe]; exact Or.inr h
  have hS : va_S A s.heap s.heap [] := va_S.rf
  obtain ⟨t0, hZ0, hT0, hN0⟩ := id hZ
  have L4 : ∀ (n : Nat), ∀ (z1 : Int32) (z2 : Int32) (z3 : Int32) (σ : gS) (H : Heap) (locs : List Loc) (ls : Array Slot), fn_X1_mendAll_L4 T n z1 z2 z3 σ = some y → va_P (dC, dI) vwCl (wA h k T σ) H → va_D A (wA h k T σ) → va_S A s.heap H locs → lv_has ls 4 [(0, .ref (h 1)), (1, .int z1), (2, .int z2), (3, .int z3)] → W p l e ({ frames := 3, cells := 0, slots := 0, locals := 67 }) s m ([.ref (h 1), .int x1] : List Value).toArray below meth c H locs 0 0 (MQ below (va_Qi (fun r u => (r, u) = y) (uAt (dC, dI) vwCl (tA k) (wA h k T) A) A) ([.ref (h 1), .int x1] : List Value).toArray s 0 0 A) (F0 m 4 ls []) := by
    intro n
    induction n with
    | zero => intro z1 z2 z3 σ H locs ls hf; exact absurd hf (by rw [fn_X1_mendAll_L4]; exact nofun)
    | succ n ih =>
      intro z1 z2 z3 σ H locs ls hf hP hD hS hl
      rw [fn_X1_mendAll_L4] at hf
      refine lv_iload_n hx hb dX1_mendAll_4 rfl (lv_at hl 3 rfl) ?_
      refine lv_iconst (v := 4) hx hb dX1_mendAll_5 (by decide) ?_
      refine lv_icmp_ge (tgt := 27) hx hb dX1_mendAll_6 (by decide) (fun hq => ?_) (fun hq => ?_)
      · have hf := gs_t hf hq
        refine lv_iload_n hx hb dX1_mendAll_27 rfl (lv_at hl 2 rfl) ?_
        exact W.iret (v := z2) hx hb hr (fun t ht hW => u_ri (Option.some.inj hf) ht hW hP hK hD hS) hS.2.2 dX1_mendAll_28
      · have hf := gs_f hf hq
        refine lv_aload_n hx hb dX1_mendAll_9 rfl (lv_at hl 0 rfl) ?_
        refine lv_iload_n hx hb dX1_mendAll_10 rfl (lv_at hl 1 rfl) ?_
        refine lv_iload_n hx hb dX1_mendAll_11 rfl (lv_at hl 3 rfl) ?_
        obtain ⟨r1, σ2, hc, hf⟩ := gs_ob_e hf
        have hF := u_free hD hS hA
        refine u_calli (va_runV (As := [.int z1, .int z3]) (rest := []) ⟨hx, hb, hml, hown, hts⟩ (ct_X1_mend l dC dI h k T σ H.size z1 z3 _ hc) (cwV 2 hts (gd_V mg_175 mg_176 mg_177 mg_34 mg_178) rfl rfl rfl (by decide +kernel) ⟨Nat.le_of_ble_eq_true rfl, Nat.le_of_ble_eq_true rfl⟩) (u_preV zA_g hK hP hD hS hF hZ (va_recv hK hP (ci := 1) (q0 := 1) rfl rfl)) rfl rfl hl.1 rfl (lv_room (Nat.le_of_ble_eq_true rfl)) dX1_mendAll_12 ⟨Nat.le_refl _, Nat.le_refl _⟩) hS hF (fun H locs hP hD hS => ?_)
        refine lv_if_eq (tgt := 21) hx hb dX1_mendAll_15 (by decide) (fun hq => ?_) (fun hq => ?_)
        · have hf := gs_t hf hq
          refine lv_iinc (v := z3 + 1) (lv' := [(3, .int (z3 + 1)), (0, .ref (h 1)), (1, .int z1), (2, .int z2)]) hx hb dX1_mendAll_21 hl (k := 3) rfl rfl (by decide) rfl (fun ls hl => ?_)
          refine lv_goto (tgt := 4) hx hb dX1_mendAll_24 (by decide) ?_
          exact ih z1 z2 (z3 + 1) σ2 _ _ _ hf hP hD hS (lv_sub hl [1, 2, 3, 0] rfl)
        · have hf := gs_f hf hq
          refine lv_iinc (v := z2 + 1) (lv' := [(2, .int (z2 + 1)), (0, .ref (h 1)), (1, .int z1), (3, .int z3)]) hx hb dX1_mendAll_18 hl (k := 2) rfl rfl (by decide) rfl (fun ls hl => ?_)
          refine lv_iinc (v := z3 + 1) (lv' := [(3, .int (z3 + 1)), (2, .int (z2 + 1)), (0, .ref (h 1)), (1, .int z1)]) hx hb dX1_mendAll_21 hl (k := 3) rfl rfl (by decide) rfl (fun ls hl => ?_)
          refine lv_goto (tgt := 4) hx hb dX1_mendAll_24 (by decide) ?_
          exact ih z1 (z2 + 1) (z3 + 1) σ2 _ _ _ hf hP hD hS (lv_sub hl [2, 3, 1, 0] rfl)
  have hl := lv_entry ([.ref (h 1), .int x1]) (n := 4) (Nat.le_of_ble_eq_true rfl)
  rw [lg_entry_eq]
  generalize (lg_sl ([.ref (h 1), .int x1]) ++ List.replicate (4 - (lg_sl ([.ref (h 1), .int x1])).length) Slot.unset).toArray = ls at hl ⊢
  have hl : lv_has ls 4 [(0, .ref (h 1)), (1, .int x1)] := hl
  rw [fn_X1_mendAll] at hf
  refine lv_iconst (v := 0) hx hb dX1_mendAll_0 (by decide) ?_
  refine lv_istore_n (lv' := [(2, .int 0), (0, .ref (h 1)), (1, .int x1)]) hx hb dX1_mendAll_1 rfl hl (by decide) rfl (fun ls hl => ?_)
  refine lv_iconst (v := 0) hx hb dX1_mendAll_2 (by decide) ?_
  refine lv_istore_n (lv' := [(3, .int 0), (2, .int 0), (0, .ref (h 1)), (1, .int x1)]) hx hb dX1_mendAll_3 rfl hl (by decide) rfl (fun ls hl => ?_)
  exact L4 gs_fu x1 0 0 σ _ _ _ hf hP hD hS (lv_sub hl [2, 3, 1, 0] rfl)
set_option maxHeartbeats 4000000 in
set_option maxRecDepth 100000 in
theorem ct_X2_keepsOldValue (l : Launch) (dC : Nat → ClassId) (dI : Nat → Nat → Nat) (h : Nat → Nat) (k : Nat → ClassId) (T : Nat) (σ : gS) (sz : Nat) (x0 : Int32) (x1 : Int32) (y : Int32 × gS) (hf : fn_X2_keepsOldValue T x0 x1 σ = some y) : Met l yX2_keepsOldValue wsX2_keepsOldValue ({ frames := 0, cells := 0, slots := 0, locals := 0 }) (va_Pc [.int x0, .int x1] (uPre (dC, dI) vwCl (tA k) (wA h k T) zA σ sz)) (va_Qi (fun r u => (r, u) = y) (uAt (dC, dI) vwCl (tA k) (wA h k T) (va_A (wA h k T σ) sz)) (va_A (wA h k T σ) sz)) 0 0 (va_A (wA h k T σ) sz) := by
  refine Met.ofW (cc := cX2_keepsOldValue) (maxL := 2) (ret := (some .boolean)) (by decide) rfl ?_
  intro p e s m args below meth c s₁ B hml hv
  obtain ⟨rfl, hsz, hP, hK, hD0, hZ⟩ := hv
  have hx := B.exec
  have hb := B.bytes
  have hr := B.returns
  have hts : ∀ w ∈ gG, w.before _ s = true := fun w h => atoms_spec (ws := wsX2_keepsOldValue) B.pre w (List.mem_cons_of_mem _ h)
  have hown : s.vm.findClass RX2 = some m.cls := findClass_of_methodNamed B.named
  have hlocks := B.notSynchronized
  subst hsz
  have hD := hD0.self (sz := s.heap.size)
  generalize hAe : va_A (wA h k T σ) s.heap.size = A at hD hZ ⊢
  have hA : ∀ q : Nat, s.heap.size ≤ q → A q := fun q h => by rw [← hAe]; exact Or.inr h
  have hS : va_S A s.heap s.heap [] := va_S.rf
  obtain ⟨t0, hZ0, hT0, hN0⟩ := id hZ
  have hl := lv_entry ([.int x0, .int x1]) (n := 2) (Nat.le_of_ble_eq_true rfl)
  rw [lg_entry_eq]
  generalize (lg_sl ([.int x0, .int x1]) ++ List.replicate (2 - (lg_sl ([.int x0, .int x1])).length) Slot.unset).toArray = ls at hl ⊢
  have hl : lv_has ls 2 [(0, .int x0), (1, .int x1)] := hl
  rw [fn_X2_keepsOldValue] at hf
  refine lv_iload_n hx hb dX2_keepsOldValue_0 rfl (lv_at hl 0 rfl) ?_
  refine lv_if_eq (tgt := 18) hx hb dX2_keepsOldValue_1 (by decide) (fun hq => ?_) (fun hq => ?_)
  · have hf := gs_t hf hq
    refine lv_iconst (v := 1) hx hb dX2_keepsOldValue_18 (by decide) ?_
    refine lv_goto (tgt := 23) hx hb dX2_keepsOldValue_19 (by decide) ?_
    exact W.zret (v := 1) (ty := .boolean) hx hb hr rfl (fun t ht hW => u_ri (Option.some.inj hf) ht hW hP hK hD hS) hS.2.2 dX2_keepsOldValue_23
  · have hf := gs_f hf hq
    refine lv_iload_n hx hb dX2_keepsOldValue_4 rfl (lv_at hl 0 rfl) ?_
    refine lv_iconst (v := 1) hx hb dX2_keepsOldValue_5 (by decide) ?_
    refine lv_icmp_eq (tgt := 18) hx hb dX2_keepsOldValue_6 (by decide) (fun hq => ?_) (fun hq => ?_)
    · have hf := gs_t hf hq
      refine lv_iconst (v := 1) hx hb dX2_keepsOldValue_18 (by decide) ?_
      refine lv_goto (tgt := 23) hx hb dX2_keepsOldValue_19 (by decide) ?_
      exact W.zret (v := 1) (ty := .boolean) hx hb hr rfl (fun t ht hW => u_ri (Option.some.inj hf) ht hW hP hK hD hS) hS.2.2 dX2_keepsOldValue_23
    · have hf := gs_f hf hq
      refine lv_iload_n hx hb dX2_keepsOldValue_9 rfl (lv_at hl 0 rfl) ?_
      refine lv_iconst (v := 2) hx hb dX2_keepsOldValue_10 (by decide) ?_
      refine lv_icmp_ne (tgt := 22) hx hb dX2_keepsOldValue_11 (by decide) (fun hq => ?_) (fun hq => ?_)
      · have hf := gs_f hf hq
        refine lv_iconst (v := 0) hx hb dX2_keepsOldValue_22 (by decide) ?_
        exact W.zret (v := 0) (ty := .boolean) hx hb hr rfl (fun t ht hW => u_ri (Option.some.inj hf) ht hW hP hK hD hS) hS.2.2 dX2_keepsOldValue_23
      · have hf := gs_t hf hq
        refine lv_iload_n hx hb dX2_keepsOldValue_14 rfl (lv_at hl 1 rfl) ?_
        refine lv_if_eq (tgt := 22) hx hb dX2_keepsOldValue_15 (by decide) (fun hq => ?_) (fun hq => ?_)
        · have hf := gs_t hf hq
          refine lv_iconst (v := 0) hx hb dX2_keepsOldValue_22 (by decide) ?_
          exact W.zret (v := 0) (ty := .boolean) hx hb hr rfl (fun t ht hW => u_ri (Option.some.inj hf) ht hW hP hK hD hS) hS.2.2 dX2_keepsOldValue_23
        · have hf := gs_f hf hq
          refine lv_iconst (v := 1) hx hb dX2_keepsOldValue_18 (by decide) ?_
          refine lv_goto (tgt := 23) hx hb dX2_keepsOldValue_19 (by decide) ?_
          exact W.zret (v := 1) (ty := .boolean) hx hb hr rfl (fun t ht hW => u_ri (Option.some.inj hf) ht hW hP hK hD hS) hS.2.2 dX2_keepsOldValue_23
set_option maxHeartbeats 4000000 in
set_option maxRecDepth 100000 in
theorem ct_X1_dueWord (l : Launch) (dC : Nat → ClassId) (dI : Nat → Nat → Nat) (h : Nat → Nat) (k : Nat → ClassId) (T : Nat) (σ : gS) (sz : Nat) (x1 : Int32) (x2 : Int32) (y : Int32 × gS) (hf : fn_X1_dueWord T x1 x2 σ = some y) : Met l yX1_dueWord wsX1_dueWord ({ frames := 1, cells := 0, slots := 0, locals := 21 }) (va_Pc [.ref (h 1), .int x1, .int x2] (uPre (dC, dI) vwCl (tA k) (wA h k T) zA σ sz)) (va_Qi (fun r u => (r, u) = y) (uAt (dC, dI) vwCl (tA k) (wA h k T) (va_A (wA h k T σ) sz)) (va_A (wA h k T σ) sz)) 0 0 (va_A (wA h k T σ) sz) := by
  refine Met.ofW (cc := cX1_dueWord) (maxL := 3) (ret := (some .int)) (by decide) rfl ?_
  intro p e s m args below meth c s₁ B hml hv
  obtain ⟨rfl, hsz, hP, hK, hD0, hZ⟩ := hv
  have hx := B.exec
  have hb := B.bytes
  have hr := B.returns
  have hts : ∀ w ∈ gG, w.before _ s = true := fun w h => atoms_spec (ws := wsX1_dueWord) B.pre w (List.mem_cons_of_mem _ h)
  have hown : s.vm.findClass RX1 = some m.cls := findClass_of_methodNamed B.named
  have hlocks := B.notSynchronized
  subst hsz
  have hD := hD0.self (sz := s.heap.size)
  generalize hAe : va_A (wA h k T σ) s.heap.size = A at hD hZ ⊢
  have hA : ∀ q : Nat, s.heap.size ≤ q → A q := fun q h => by rw [← hAe]; exact Or.inr h
  have hS : va_S A s.heap s.heap [] := va_S.rf
  obtain ⟨t0, hZ0, hT0, hN0⟩ := id hZ
  have hl := lv_entry ([.ref (h 1), .int x1, .int x2]) (n := 3) (Nat.le_of_ble_eq_true rfl)
  rw [lg_entry_eq]
  generalize (lg_sl ([.ref (h 1), .int x1, .int x2]) ++ List.replicate (3 - (lg_sl ([.ref (h 1), .int x1, .int x2])).length) Slot.unset).toArray = ls at hl ⊢
  have hl : lv_has ls 3 [(0, .ref (h 1)), (1, .int x1), (2, .int x2)] := hl
  rw [fn_X1_dueWord] at hf
  refine lv_aload_n hx hb dX1_dueWord_0 rfl (lv_at hl 0 rfl) ?_
  refine va_get (D := (dC, dI)) (ci := 1) (v := .ref (h 3)) (C := RX1) (T := TX1) (N := 7) hx hb hts inG_X1 hown hK hP 1 rfl rfl 2 (by decide) (hts _ mg_59) (fun _ h9 => h9) rfl dX1_dueWord_1 ?_
  refine lv_iload_n hx hb dX1_dueWord_4 rfl (lv_at hl 1 rfl) ?_
  refine lv_iload_n hx hb dX1_dueWord_5 rfl (lv_at hl 2 rfl) ?_
  obtain ⟨r1, σ2, hc, hf⟩ := gs_ob_e hf
  have hF := u_free hD hS hA
  refine u_calli (va_runS (As := [.int x1, .int x2]) (rest := [.ref (h 3)]) ⟨hx, hb, hml, hown, hts⟩ (ct_X1_place l dC dI h k T σ s.heap.size x1 x2 _ hc) (va_cwS 2 hts (gd_S mg_164 mg_165 mg_34 mg_166) rfl rfl rfl (by decide +kernel) ⟨Nat.le_of_ble_eq_true rfl, Nat.le_of_ble_eq_true rfl⟩) (u_preS zA_g hK hP hD hS hF hZ) rfl rfl hl.1 rfl (lv_room (Nat.le_of_ble_eq_true rfl)) dX1_dueWord_6 ⟨Nat.le_refl _, Nat.le_refl _⟩) hS hF (fun H locs hP hD hS => ?_)
  obtain ⟨hin, hf⟩ := gs_gd_e hf
  refine va_iald hx hb hK hP 3 1 rfl rfl hin dX1_dueWord_9 ?_
  exact W.iret (v := σ2 1 r1.toNatClampNeg) hx hb hr (fun t ht hW => u_ri (Option.some.inj hf) ht hW hP hK hD hS) hS.2.2 dX1_dueWord_10
