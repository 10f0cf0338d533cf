set_option maxHeartbeats 4000000 in
set_option maxRecDepth 100000 in
theorem ct_X3_file (l : Launch) (dC : Nat → ClassId) (dI : Nat → Nat → Nat) (h : Nat → Nat) (k : Nat → ClassId) (T : Nat) (σ : gS) (sz : Nat) (x1 : Int32) (x2 : Int32) (y : Int32 × gS) (hf : fn_X3_file T x1 x2 σ = some y) : Met l yX3_file wsX3_file ({ frames := 1, cells := 0, slots := 0, locals := 23 }) (va_Pc [.ref (h 0), .int x1, .int x2] (uPre (dC, dI) vwCl (tB k) (wB h k T) zB σ sz)) (va_Qi (fun r u => (r, u) = y) (uAt (dC, dI) vwCl (tB k) (wB h k T) (va_A (wB h k T σ) sz)) (va_A (wB h k T σ) sz)) 0 0 (va_A (wB h k T σ) sz) := by
  refine Met.ofW (cc := cX3_file) (maxL := 4) (ret := (some .int)) (by decide) rfl ?_
  intro p e s m args below meth c s₁ B hml hv
  obtain ⟨rfl, hsz, hP, hK, hD0, hZ⟩ := hv
  have hx := B.exec
  have hb := B.bytes
  have hr := B.returns
  have hts : ∀ w ∈ gG, w.before _ s = true := fun w h => atoms_spec (ws := wsX3_file) B.pre w (List.mem_cons_of_mem _ h)
  have hown : s.vm.findClass RX3 = some m.cls := findClass_of_methodNamed B.named
  have hlocks := B.notSynchronized
  subst hsz
  have hD := hD0.self (sz := s.heap.size)
  generalize hAe : va_A (wB h k T σ) s.heap.size = A at hD hZ ⊢
  have hA : ∀ q : Nat, s.heap.size ≤ q → A q := fun q h => by rw [← hAe]; exact Or.inr h
  have hS : va_S A s.heap s.heap [] := va_S.rf
  have hl := lv_entry ([.ref (h 0), .int x1, .int x2]) (n := 4) (Nat.le_of_ble_eq_true rfl)
  rw [lg_entry_eq]
  generalize (lg_sl ([.ref (h 0), .int x1, .int x2]) ++ List.replicate (4 - (lg_sl ([.ref (h 0), .int x1, .int x2])).length) Slot.unset).toArray = ls at hl ⊢
  have hl : lv_has ls 4 [(0, .ref (h 0)), (1, .int x1), (2, .int x2)] := hl
  rw [fn_X3_file] at hf
  refine lv_iload_n hx hb dX3_file_0 rfl (lv_at hl 1 rfl) ?_
  refine lv_bipush (v := 8) hx hb dX3_file_1 (by decide) ?_
  obtain ⟨r1, σ2, hc, hf⟩ := gs_ob_e hf
  have hF := u_free hD hS hA
  refine u_calli (va_runS (As := [.int x1, .int 8]) (rest := []) ⟨hx, hb, hml, hown, hts⟩ (ct_X3_in l dC dI h k T σ s.heap.size x1 8 _ hc) (va_cwS 2 hts (gd_S mg_380 mg_381 mg_36 mg_382) rfl rfl rfl (by decide +kernel) ⟨Nat.le_of_ble_eq_true rfl, Nat.le_of_ble_eq_true rfl⟩) (u_preS zB_g hK hP hD hS hF hZ) rfl rfl hl.1 rfl (lv_room (Nat.le_of_ble_eq_true rfl)) dX3_file_3 ⟨Nat.le_refl _, Nat.le_refl _⟩) hS hF (fun H locs hP hD hS => ?_)
  refine lv_if_eq (tgt := 18) hx hb dX3_file_6 (by decide) (fun hq => ?_) (fun hq => ?_)
  · have hf := gs_t hf hq
    refine lv_iconst (v := (-1)) hx hb dX3_file_18 (by decide) ?_
    exact W.iret (v := (-1)) hx hb hr (fun t ht hW => u_ri (Option.some.inj hf) ht hW hP hK hD hS) hS.2.2 dX3_file_19
  · have hf := gs_f hf hq
    refine lv_iload_n hx hb dX3_file_9 rfl (lv_at hl 2 rfl) ?_
    refine lv_bipush (v := 8) hx hb dX3_file_10 (by decide) ?_
    obtain ⟨r3, σ4, hc, hf⟩ := gs_ob_e hf
    have hF := u_free hD hS hA
    refine u_calli (va_runS (As := [.int x2, .int 8]) (rest := []) ⟨hx, hb, hml, hown, hts⟩ (ct_X3_in l dC dI h k T σ2 H.size x2 8 _ hc) (va_cwS 2 hts (gd_S mg_380 mg_381 mg_36 mg_382) rfl rfl rfl (by decide +kernel) ⟨Nat.le_of_ble_eq_true rfl, Nat.le_of_ble_eq_true rfl⟩) (u_preS zB_g hK hP hD hS hF hZ) rfl rfl hl.1 rfl (lv_room (Nat.le_of_ble_eq_true rfl)) dX3_file_12 ⟨Nat.le_refl _, Nat.le_refl _⟩) hS hF (fun H locs hP hD hS => ?_)
    refine lv_if_ne (tgt := 20) hx hb dX3_file_15 (by decide) (fun hq => ?_) (fun hq => ?_)
    · have hf := gs_f hf hq
      refine lv_iload_n hx hb dX3_file_20 rfl (lv_at hl 2 rfl) ?_
      refine lv_if_ne (tgt := 30) hx hb dX3_file_21 (by decide) (fun hq => ?_) (fun hq => ?_)
      · have hf := gs_f hf hq
        refine lv_iload_n hx hb dX3_file_30 rfl (lv_at hl 2 rfl) ?_
        refine lv_iconst (v := 1) hx hb dX3_file_31 (by decide) ?_
        refine lv_icmp_ne (tgt := 42) hx hb dX3_file_32 (by decide) (fun hq => ?_) (fun hq => ?_)
        · have hf := gs_f hf hq
          refine lv_iload_n hx hb dX3_file_42 rfl (lv_at hl 2 rfl) ?_
          refine lv_iconst (v := 2) hx hb dX3_file_43 (by decide) ?_
          refine lv_idiv hx hb dX3_file_44 (by decide) ?_
          refine lv_iconst (v := 1) hx hb dX3_file_45 (by decide) ?_
          refine lv_isub hx hb dX3_file_46 ?_
          refine lv_istore_n (lv' := [(3, .int ((x2 / 2) - 1)), (0, .ref (h 0)), (1, .int x1), (2, .int x2)]) hx hb dX3_file_47 rfl hl (by decide) rfl (fun ls hl => ?_)
          refine lv_iload_n hx hb dX3_file_48 rfl (lv_at hl 0 rfl) ?_
          refine lv_aload_n hx hb dX3_file_49 rfl (lv_at hl 1 rfl) ?_
          refine va_get (D := (dC, dI)) (ci := 3) (v := .ref (h 9)) (C := RX3) (T := TX3) (N := 11) hx hb hts inG_X3 hown hK hP 0 rfl rfl 9 (by decide) (hts _ mg_374) (fun _ h9 => h9) rfl dX3_file_50 ?_
          refine lv_iload_n hx hb dX3_file_53 rfl (lv_at hl 2 rfl) ?_
          obtain ⟨hin, hf⟩ := gs_gd_e hf
          refine va_iald hx hb hK hP 9 8 rfl rfl hin dX3_file_54 ?_
          refine lv_icmp_lt (tgt := 60) hx hb dX3_file_55 (by decide) (fun hq => ?_) (fun hq => ?_)
          · have hf := gs_t hf hq
            refine lv_iload_n hx hb dX3_file_60 rfl (lv_at hl 3 rfl) ?_
            refine lv_iconst (v := 2) hx hb dX3_file_61 (by decide) ?_
            refine lv_irem hx hb dX3_file_62 (by decide) ?_
            refine lv_if_ne (tgt := 79) hx hb dX3_file_63 (by decide) (fun hq => ?_) (fun hq => ?_)
            · have hf := gs_f hf hq
              refine lv_aload_n hx hb dX3_file_79 rfl (lv_at hl 1 rfl) ?_
              refine va_get (D := (dC, dI)) (ci := 3) (v := .ref (h 8)) (C := RX3) (T := TX3) (N := 11) hx hb hts inG_X3 hown hK hP 0 rfl rfl 8 (by decide) (hts _ mg_373) (fun _ h9 => h9) rfl dX3_file_80 ?_
              refine lv_iconst (v := 3) hx hb dX3_file_83 (by decide) ?_
              refine lv_iload_n hx hb dX3_file_84 rfl (lv_at hl 2 rfl) ?_
              refine lv_imul hx hb dX3_file_85 ?_
              refine lv_iload_n hx hb dX3_file_86 rfl (lv_at hl 0 rfl) ?_
              refine lv_iadd hx hb dX3_file_87 ?_
              obtain ⟨hin, hf⟩ := gs_gd_e hf
              refine va_iald hx hb hK hP 8 7 rfl rfl hin dX3_file_88 ?_
              exact W.iret (v := σ4 8 ((3 * x1) + ((x2 / 2) - 1)).toNatClampNeg) hx hb hr (fun t ht hW => u_ri (Option.some.inj hf) ht hW hP hK hD hS) hS.2.2 dX3_file_89
            · have hf := gs_t hf hq
              refine lv_aload_n hx hb dX3_file_66 rfl (lv_at hl 1 rfl) ?_
              refine va_get (D := (dC, dI)) (ci := 3) (v := .ref (h 7)) (C := RX3) (T := TX3) (N := 11) hx hb hts inG_X3 hown hK hP 0 rfl rfl 7 (by decide) (hts _ mg_372) (fun _ h9 => h9) rfl dX3_file_67 ?_
              refine lv_iconst (v := 3) hx hb dX3_file_70 (by decide) ?_
              refine lv_iload_n hx hb dX3_file_71 rfl (lv_at hl 2 rfl) ?_
              refine lv_imul hx hb dX3_file_72 ?_
              refine lv_iload_n hx hb dX3_file_73 rfl (lv_at hl 0 rfl) ?_
              refine lv_iadd hx hb dX3_file_74 ?_
              obtain ⟨hin, hf⟩ := gs_gd_e hf
              refine va_iald hx hb hK hP 7 6 rfl rfl hin dX3_file_75 ?_
              refine lv_goto (tgt := 89) hx hb dX3_file_76 (by decide) ?_
              exact W.iret (v := σ4 7 ((3 * x1) + ((x2 / 2) - 1)).toNatClampNeg) hx hb hr (fun t ht hW => u_ri (Option.some.inj hf) ht hW hP hK hD hS) hS.2.2 dX3_file_89
          · have hf := gs_f hf hq
            refine lv_iconst (v := (-1)) hx hb dX3_file_58 (by decide) ?_
            exact W.iret (v := (-1)) hx hb hr (fun t ht hW => u_ri (Option.some.inj hf) ht hW hP hK hD hS) hS.2.2 dX3_file_59
        · have hf := gs_t hf hq
          refine lv_aload_n hx hb dX3_file_35 rfl (lv_at hl 0 rfl) ?_
          refine va_get (D := (dC, dI)) (ci := 3) (v := .ref (h 9)) (C := RX3) (T := TX3) (N := 11) hx hb hts inG_X3 hown hK hP 0 rfl rfl 9 (by decide) (hts _ mg_374) (fun _ h9 => h9) rfl dX3_file_36 ?_
          refine lv_iload_n hx hb dX3_file_39 rfl (lv_at hl 1 rfl) ?_
          obtain ⟨hin, hf⟩ := gs_gd_e hf
          refine va_iald hx hb hK hP 9 8 rfl rfl hin dX3_file_40 ?_
          exact W.iret (v := σ4 9 x1.toNatClampNeg) hx hb hr (fun t ht hW => u_ri (Option.some.inj hf) ht hW hP hK hD hS) hS.2.2 dX3_file_41
      · have hf := gs_t hf hq
        refine lv_aload_n hx hb dX3_file_24 rfl (lv_at hl 0 rfl) ?_
        refine lv_iload_n hx hb dX3_file_25 rfl (lv_at hl 1 rfl) ?_
        obtain ⟨r5, σ6, hc, hf⟩ := gs_ob_e hf
        have hF := u_free hD hS hA
        refine u_calli (va_runV (As := [.int x1]) (rest := []) ⟨hx, hb, hml, hown, hts⟩ (ct_X3_length l dC dI h k T σ4 H.size x1 _ hc) (cwV 1 hts (gd_V mg_468 mg_469 mg_28 mg_36 mg_470) rfl rfl rfl (by decide +kernel) ⟨Nat.le_of_ble_eq_true rfl, Nat.le_of_ble_eq_true rfl⟩) (u_preV zB_g hK hP hD hS hF hZ (va_recv hK hP (ci := 3) (q0 := 0) rfl rfl)) rfl rfl hl.1 rfl (lv_room (Nat.le_of_ble_eq_true rfl)) dX3_file_26 ⟨Nat.le_refl _, Nat.le_refl _⟩) hS hF (fun H locs hP hD hS => ?_)
        exact W.iret (v := r5) hx hb hr (fun t ht hW => u_ri (Option.some.inj hf) ht hW hP hK hD hS) hS.2.2 dX3_file_29
    · have hf := gs_t hf hq
      refine lv_iconst (v := (-1)) hx hb dX3_file_18 (by decide) ?_
      exact W.iret (v := (-1)) hx hb hr (fun t ht hW => u_ri (Option.some.inj hf) ht hW hP hK hD hS) hS.2.2 dX3_file_19
set_option maxHeartbeats 4000000 in
set_option maxRecDepth 100000 in
theorem ct_X3_stripe (l : Launch) (dC : Nat → ClassId) (dI : Nat → Nat → Nat) (h : Nat → Nat) (k : Nat → ClassId) (T : Nat) (σ : gS) (sz : Nat) (x1 : Int32) (x2 : Int32) (y : Int32 × gS) (hf : fn_X3_stripe T x1 x2 σ = some y) : Met l yX3_stripe wsX3_stripe ({ frames := 2, cells := 0, slots := 0, locals := 44 }) (va_Pc [.ref (h 0), .int x1, .int x2] (uPre (dC, dI) vwCl (tB k) (wB h k T) zB σ sz)) (va_Qi (fun r u => (r, u) = y) (uAt (dC, dI) vwCl (tB k) (wB h k T) (va_A (wB h k T σ) sz)) (va_A (wB h k T σ) sz)) 0 0 (va_A (wB h k T σ) sz) := by
  refine Met.ofW (cc := cX3_stripe) (maxL := 4) (ret := (some .int)) (by decide) rfl ?_
  intro p e s m args below meth c s₁ B hml hv
  obtain ⟨rfl, hsz, hP, hK, hD0, hZ⟩ := hv
  have hx := B.exec
  have hb := B.bytes
  have hr := B.returns
  have hts : ∀ w ∈ gG, w.before _ s = true := fun w h => atoms_spec (ws := wsX3_stripe) B.pre w (List.mem_cons_of_mem _ h)
  have hown : s.vm.findClass RX3 = some m.cls := findClass_of_methodNamed B.named
  have hlocks := B.notSynchronized
  subst hsz
  have hD := hD0.self (sz := s.heap.size)
  generalize hAe : va_A (wB h k T σ) s.heap.size = A at hD hZ ⊢
  have hA : ∀ q : Nat, s.heap.size ≤ q → A q := fun q h => by rw [← hAe]; exact Or.inr h
  have hS : va_S A s.heap s.heap [] := va_S.rf
  have hl := lv_entry ([.ref (h 0), .int x1, .int x2]) (n := 4) (Nat.le_of_ble_eq_true rfl)
  rw [lg_entry_eq]
  generalize (lg_sl ([.ref (h 0), .int x1, .int x2]) ++ List.replicate (4 - (lg_sl ([.ref (h 0), .int x1, .int x2])).length) Slot.unset).toArray = ls at hl ⊢
  have hl : lv_has ls 4 [(0, .ref (h 0)), (1, .int x1), (2, .int x2)] := hl
  rw [fn_X3_stripe] at hf
  refine lv_iload_n hx hb dX3_stripe_0 rfl (lv_at hl 1 rfl) ?_
  refine lv_aload_n hx hb dX3_stripe_1 rfl (lv_at hl 0 rfl) ?_
  refine va_get (D := (dC, dI)) (ci := 3) (v := .int (σ 0 0)) (C := RX3) (T := TX3) (N := 11) hx hb hts inG_X3 hown hK hP 0 rfl rfl 0 (by decide) (hts _ mg_365) (fun _ h9 => h9) rfl dX3_stripe_2 ?_
  obtain ⟨r1, σ2, hc, hf⟩ := gs_ob_e hf
  have hF := u_free hD hS hA
  refine u_calli (va_runS (As := [.int x1, .int (σ 0 0)]) (rest := []) ⟨hx, hb, hml, hown, hts⟩ (ct_X3_in l dC dI h k T σ s.heap.size x1 (σ 0 0) _ hc) (va_cwS 2 hts (gd_S mg_380 mg_381 mg_36 mg_382) rfl rfl rfl (by decide +kernel) ⟨Nat.le_of_ble_eq_true rfl, Nat.le_of_ble_eq_true rfl⟩) (u_preS zB_g hK hP hD hS hF hZ) rfl rfl hl.1 rfl (lv_room (Nat.le_of_ble_eq_true rfl)) dX3_stripe_5 ⟨Nat.le_refl _, Nat.le_refl _⟩) hS hF (fun H locs hP hD hS => ?_)
  refine lv_if_eq (tgt := 20) hx hb dX3_stripe_8 (by decide) (fun hq => ?_) (fun hq => ?_)
  · have hf := gs_t hf hq
    refine lv_iconst (v := (-1)) hx hb dX3_stripe_20 (by decide) ?_
    exact W.iret (v := (-1)) hx hb hr (fun t ht hW => u_ri (Option.some.inj hf) ht hW hP hK hD hS) hS.2.2 dX3_stripe_21
  · have hf := gs_f hf hq
    refine lv_iload_n hx hb dX3_stripe_11 rfl (lv_at hl 2 rfl) ?_
    refine lv_bipush (v := 6) hx hb dX3_stripe_12 (by decide) ?_
    obtain ⟨r3, σ4, hc, hf⟩ := gs_ob_e hf
    have hF := u_free hD hS hA
    refine u_calli (va_runS (As := [.int x2, .int 6]) (rest := []) ⟨hx, hb, hml, hown, hts⟩ (ct_X3_in l dC dI h k T σ2 H.size x2 6 _ hc) (va_cwS 2 hts (gd_S mg_380 mg_381 mg_36 mg_382) rfl rfl rfl (by decide +kernel) ⟨Nat.le_of_ble_eq_true rfl, Nat.le_of_ble_eq_true rfl⟩) (u_preS zB_g hK hP hD hS hF hZ) rfl rfl hl.1 rfl (lv_room (Nat.le_of_ble_eq_true rfl)) dX3_stripe_14 ⟨Nat.le_refl _, Nat.le_refl _⟩) hS hF (fun H locs hP hD hS => ?_)
    refine lv_if_ne (tgt := 22) hx hb dX3_stripe_17 (by decide) (fun hq => ?_) (fun hq => ?_)
    · have hf := gs_f hf hq
      refine lv_iload_n hx hb dX3_stripe_22 rfl (lv_at hl 2 rfl) ?_
      refine lv_iconst (v := 4) hx hb dX3_stripe_23 (by decide) ?_
      refine lv_icmp_ne (tgt := 33) hx hb dX3_stripe_24 (by decide) (fun hq => ?_) (fun hq => ?_)
      · have hf := gs_f hf hq
        refine lv_iload_n hx hb dX3_stripe_33 rfl (lv_at hl 2 rfl) ?_
        refine lv_iconst (v := 5) hx hb dX3_stripe_34 (by decide) ?_
        refine lv_icmp_ne (tgt := 52) hx hb dX3_stripe_35 (by decide) (fun hq => ?_) (fun hq => ?_)
        · have hf := gs_f hf hq
          refine lv_iconst (v := 4) hx hb dX3_stripe_52 (by decide) ?_
          refine lv_iload_n hx hb dX3_stripe_53 rfl (lv_at hl 1 rfl) ?_
          refine lv_imul hx hb dX3_stripe_54 ?_
          refine lv_iload_n hx hb dX3_stripe_55 rfl (lv_at hl 2 rfl) ?_
          refine lv_iadd hx hb dX3_stripe_56 ?_
          refine lv_istore_n (lv' := [(3, .int ((4 * x1) + x2)), (0, .ref (h 0)), (1, .int x1), (2, .int x2)]) hx hb dX3_stripe_57 rfl hl (by decide) rfl (fun ls hl => ?_)
          refine lv_aload_n hx hb dX3_stripe_58 rfl (lv_at hl 1 rfl) ?_
          refine va_get (D := (dC, dI)) (ci := 3) (v := .ref (h 3)) (C := RX3) (T := TX3) (N := 11) hx hb hts inG_X3 hown hK hP 0 rfl rfl 3 (by decide) (hts _ mg_368) (fun _ h9 => h9) rfl dX3_stripe_59 ?_
          refine lv_iload_n hx hb dX3_stripe_62 rfl (lv_at hl 0 rfl) ?_
          obtain ⟨hin, hf⟩ := gs_gd_e hf
          refine va_zald hx hb hK hP 3 2 rfl rfl hin dX3_stripe_63 ?_
          refine lv_if_eq (tgt := 71) hx hb dX3_stripe_64 (by decide) (fun hq => ?_) (fun hq => ?_)
          · have hf := gs_t hf hq
            refine lv_aload_n hx hb dX3_stripe_71 rfl (lv_at hl 1 rfl) ?_
            refine lv_iload_n hx hb dX3_stripe_72 rfl (lv_at hl 0 rfl) ?_
            obtain ⟨r5, σ6, hc, hf⟩ := gs_ob_e hf
            have hF := u_free hD hS hA
            refine u_calli (va_runV (As := [.int ((4 * x1) + x2)]) (rest := []) ⟨hx, hb, hml, hown, hts⟩ (ct_X3_wrong l dC dI h k T σ4 H.size ((4 * x1) + x2) _ hc) (cwV 1 hts (gd_V mg_410 mg_411 mg_20 mg_36 mg_412) rfl rfl rfl (by decide +kernel) ⟨Nat.le_of_ble_eq_true rfl, Nat.le_of_ble_eq_true rfl⟩) (u_preV zB_g hK hP hD hS hF hZ (va_recv hK hP (ci := 3) (q0 := 0) rfl rfl)) rfl rfl hl.1 rfl (lv_room (Nat.le_of_ble_eq_true rfl)) dX3_stripe_73 ⟨Nat.le_refl _, Nat.le_refl _⟩) hS hF (fun H locs hP hD hS => ?_)
            refine lv_if_eq (tgt := 83) hx hb dX3_stripe_76 (by decide) (fun hq => ?_) (fun hq => ?_)
            · have hf := gs_t hf hq
              refine lv_iconst (v := 0) hx hb dX3_stripe_83 (by decide) ?_
              exact W.iret (v := 0) hx hb hr (fun t ht hW => u_ri (Option.some.inj hf) ht hW hP hK hD hS) hS.2.2 dX3_stripe_84
            · have hf := gs_f hf hq
              refine lv_iconst (v := 1) hx hb dX3_stripe_79 (by decide) ?_
              refine lv_goto (tgt := 84) hx hb dX3_stripe_80 (by decide) ?_
              exact W.iret (v := 1) hx hb hr (fun t ht hW => u_ri (Option.some.inj hf) ht hW hP hK hD hS) hS.2.2 dX3_stripe_84
          · have hf := gs_f hf hq
            refine lv_iconst (v := 2) hx hb dX3_stripe_67 (by decide) ?_
            refine lv_goto (tgt := 84) hx hb dX3_stripe_68 (by decide) ?_
            exact W.iret (v := 2) hx hb hr (fun t ht hW => u_ri (Option.some.inj hf) ht hW hP hK hD hS) hS.2.2 dX3_stripe_84
        · have hf := gs_t hf hq
          refine lv_aload_n hx hb dX3_stripe_38 rfl (lv_at hl 0 rfl) ?_
          refine lv_iload_n hx hb dX3_stripe_39 rfl (lv_at hl 1 rfl) ?_
          obtain ⟨r7, σ8, hc, hf⟩ := gs_ob_e hf
          have hF := u_free hD hS hA
          refine u_calli (va_runV (As := [.int x1]) (rest := []) ⟨hx, hb, hml, hown, hts⟩ (ct_X3_broken l dC dI h k T σ4 H.size x1 _ hc) (cwV 1 hts (gd_V mg_407 mg_408 mg_19 mg_36 mg_409) rfl rfl rfl (by decide +kernel) ⟨Nat.le_of_ble_eq_true rfl, Nat.le_of_ble_eq_true rfl⟩) (u_preV zB_g hK hP hD hS hF hZ (va_recv hK hP (ci := 3) (q0 := 0) rfl rfl)) rfl rfl hl.1 rfl (lv_room (Nat.le_of_ble_eq_true rfl)) dX3_stripe_40 ⟨Nat.le_refl _, Nat.le_refl _⟩) hS hF (fun H locs hP hD hS => ?_)
          refine lv_if_eq (tgt := 50) hx hb dX3_stripe_43 (by decide) (fun hq => ?_) (fun hq => ?_)
          · have hf := gs_t hf hq
            refine lv_iconst (v := 0) hx hb dX3_stripe_50 (by decide) ?_
            exact W.iret (v := 0) hx hb hr (fun t ht hW => u_ri (Option.some.inj hf) ht hW hP hK hD hS) hS.2.2 dX3_stripe_51
          · have hf := gs_f hf hq
            refine lv_iconst (v := 1) hx hb dX3_stripe_46 (by decide) ?_
            refine lv_goto (tgt := 51) hx hb dX3_stripe_47 (by decide) ?_
            exact W.iret (v := 1) hx hb hr (fun t ht hW => u_ri (Option.some.inj hf) ht hW hP hK hD hS) hS.2.2 dX3_stripe_51
      · have hf := gs_t hf hq
        refine lv_aload_n hx hb dX3_stripe_27 rfl (lv_at hl 0 rfl) ?_
        refine lv_iload_n hx hb dX3_stripe_28 rfl (lv_at hl 1 rfl) ?_
        obtain ⟨r9, σ10, hc, hf⟩ := gs_ob_e hf
        have hF := u_free hD hS hA
        refine u_calli (va_runV (As := [.int x1]) (rest := []) ⟨hx, hb, hml, hown, hts⟩ (ct_X3_movedOf l dC dI h k T σ4 H.size x1 _ hc) (cwV 1 hts (gd_V mg_453 mg_454 mg_27 mg_36 mg_455) rfl rfl rfl (by decide +kernel) ⟨Nat.le_of_ble_eq_true rfl, Nat.le_of_ble_eq_true rfl⟩) (u_preV zB_g hK hP hD hS hF hZ (va_recv hK hP (ci := 3) (q0 := 0) rfl rfl)) rfl rfl hl.1 rfl (lv_room (Nat.le_of_ble_eq_true rfl)) dX3_stripe_29 ⟨Nat.le_refl _, Nat.le_refl _⟩) hS hF (fun H locs hP hD hS => ?_)
        exact W.iret (v := r9) hx hb hr (fun t ht hW => u_ri (Option.some.inj hf) ht hW hP hK hD hS) hS.2.2 dX3_stripe_32
    · have hf := gs_t hf hq
      refine lv_iconst (v := (-1)) hx hb dX3_stripe_20 (by decide) ?_
      exact W.iret (v := (-1)) hx hb hr (fun t ht hW => u_ri (Option.some.inj hf) ht hW hP hK hD hS) hS.2.2 dX3_stripe_21
set_option maxHeartbeats 4000000 in
set_option maxRecDepth 100000 in
theorem ct_X3_disk (l : Launch) (dC : Nat → ClassId) (dI : Nat → Nat → Nat) (h : Nat → Nat) (k : Nat → ClassId) (T : Nat) (σ : gS) (sz : Nat) (x1 : Int32) (x2 : Int32) (y : Int32 × gS) (hf : fn_X3_disk T x1 x2 σ = some y) : Met l yX3_disk wsX3_disk ({ frames := 2, cells := 0, slots := 0, locals := 44 }) (va_Pc [.ref (h 0), .int x1, .int x2] (uPre (dC, dI) vwCl (tB k) (wB h k T) zB σ sz)) (va_Qi (fun r u => (r, u) = y) (uAt (dC, dI) vwCl (tB k) (wB h k T) (va_A (wB h k T σ) sz)) (va_A (wB h k T σ) sz)) 0 0 (va_A (wB h k T σ) sz) := by
  refine Met.ofW (cc := cX3_disk) (maxL := 5) (ret := (some .int)) (by decide) rfl ?_
  intro p e s m args below meth c s₁ B hml hv
  obtain ⟨rfl, hsz, hP, hK, hD0, hZ⟩ := hv
  have hx := B.exec
  have hb := B.bytes
  have hr := B.returns
  have hts : ∀ w ∈ gG, w.before _ s = true := fun w h => atoms_spec (ws := wsX3_disk) B.pre w (List.mem_cons_of_mem _ h)
  have hown : s.vm.findClass RX3 = some m.cls := findClass_of_methodNamed B.named
  have hlocks := B.notSynchronized
  subst hsz
  have hD := hD0.self (sz := s.heap.size)
  generalize hAe : va_A (wB h k T σ) s.heap.size = A at hD hZ ⊢
  have hA : ∀ q : Nat, s.heap.size ≤ q → A q := fun q h => by rw [← hAe]; exact Or.inr h
  have hS : va_S A s.heap s.heap [] := va_S.rf
  have L43 : ∀ (n : Nat), ∀ (z1 : Int32) (z2 : Int32) (z3 : Int32) (z4 : Int32) (σ : gS) (H : Heap) (locs : List Loc) (ls : Array Slot), fn_X3_disk_L43 T n z1 z2 z3 z4 σ = some y → va_P (dC, dI) vwCl (wB h k T σ) H → va_D A (wB h k T σ) → va_S A s.heap H locs → lv_has ls 5 [(0, .ref (h 0)), (1, .int z1), (2, .int z2), (3, .int z3), (4, .int z4)] → W p l e ({ frames := 2, cells := 0, slots := 0, locals := 44 }) s m ([.ref (h 0), .int x1, .int x2] : List Value).toArray below meth c H locs 0 0 (MQ below (va_Qi (fun r u => (r, u) = y) (uAt (dC, dI) vwCl (tB k) (wB h k T) A) A) ([.ref (h 0), .int x1, .int x2] : List Value).toArray s 0 0 A) (F0 m 43 ls []) := by
    intro n
    induction n with
    | zero => intro z1 z2 z3 z4 σ H locs ls hf; exact absurd hf (by rw [fn_X3_disk_L43]; exact nofun)
    | succ n ih =>
      intro z1 z2 z3 z4 σ H locs ls hf hP hD hS hl
      rw [fn_X3_disk_L43] at hf
      refine lv_iload hx hb dX3_disk_43 (lv_at hl 4 rfl) ?_
      refine lv_iconst (v := 4) hx hb dX3_disk_45 (by decide) ?_
      refine lv_aload_n hx hb dX3_disk_46 rfl (lv_at hl 0 rfl) ?_
      refine va_get (D := (dC, dI)) (ci := 3) (v := .int (σ 0 0)) (C := RX3) (T := TX3) (N := 11) hx hb hts inG_X3 hown hK hP 0 rfl rfl 0 (by decide) (hts _ mg_365) (fun _ h9 => h9) rfl dX3_disk_47 ?_
      refine lv_imul hx hb dX3_disk_50 ?_
      refine lv_icmp_ge (tgt := 88) hx hb dX3_disk_51 (by decide) (fun hq => ?_) (fun hq => ?_)
      · have hf := gs_t hf hq
        refine lv_iload_n hx hb dX3_disk_88 rfl (lv_at hl 3 rfl) ?_
        exact W.iret (v := z3) hx hb hr (fun t ht hW => u_ri (Option.some.inj hf) ht hW hP hK hD hS) hS.2.2 dX3_disk_89
      · have hf := gs_f hf hq
        refine lv_aload_n hx hb dX3_disk_54 rfl (lv_at hl 0 rfl) ?_
        refine lv_iload hx hb dX3_disk_55 (lv_at hl 4 rfl) ?_
        obtain ⟨r5, σ6, hc, hf⟩ := gs_ob_e hf
        have hF := u_free hD hS hA
        refine u_calli (va_runV (As := [.int z4]) (rest := []) ⟨hx, hb, hml, hown, hts⟩ (ct_X3_on l dC dI h k T σ H.size z4 _ hc) (cwV 1 hts (gd_V mg_429 mg_430 mg_23 mg_36 mg_431) rfl rfl rfl (by decide +kernel) ⟨Nat.le_of_ble_eq_true rfl, Nat.le_of_ble_eq_true rfl⟩) (u_preV zB_g hK hP hD hS hF hZ (va_recv hK hP (ci := 3) (q0 := 0) rfl rfl)) rfl rfl hl.1 rfl (lv_room (Nat.le_of_ble_eq_true rfl)) dX3_disk_57 ⟨Nat.le_refl _, Nat.le_refl _⟩) hS hF (fun H locs hP hD hS => ?_)
        refine lv_iload_n hx hb dX3_disk_60 rfl (lv_at hl 1 rfl) ?_
        refine lv_icmp_ne (tgt := 82) hx hb dX3_disk_61 (by decide) (fun hq => ?_) (fun hq => ?_)
        · have hf := gs_f hf hq
          refine lv_iinc (v := z4 + 1) (lv' := [(4, .int (z4 + 1)), (0, .ref (h 0)), (1, .int z1), (2, .int z2), (3, .int z3)]) hx hb dX3_disk_82 hl (k := 4) rfl rfl (by decide) rfl (fun ls hl => ?_)
          refine lv_goto (tgt := 43) hx hb dX3_disk_85 (by decide) ?_
          exact ih z1 z2 z3 (z4 + 1) σ6 _ _ _ hf hP hD hS (lv_sub hl [1, 2, 3, 4, 0] rfl)
        · have hf := gs_t hf hq
          refine lv_iload_n hx hb dX3_disk_64 rfl (lv_at hl 2 rfl) ?_
          refine lv_iconst (v := 1) hx hb dX3_disk_65 (by decide) ?_
          refine lv_icmp_eq (tgt := 79) hx hb dX3_disk_66 (by decide) (fun hq => ?_) (fun hq => ?_)
          · have hf := gs_t hf hq
            refine lv_iinc (v := z3 + 1) (lv' := [(3, .int (z3 + 1)), (0, .ref (h 0)), (1, .int z1), (2, .int z2), (4, .int z4)]) hx hb dX3_disk_79 hl (k := 3) rfl rfl (by decide) rfl (fun ls hl => ?_)
            refine lv_iinc (v := z4 + 1) (lv' := [(4, .int (z4 + 1)), (3, .int (z3 + 1)), (0, .ref (h 0)), (1, .int z1), (2, .int z2)]) hx hb dX3_disk_82 hl (k := 4) rfl rfl (by decide) rfl (fun ls hl => ?_)
            refine lv_goto (tgt := 43) hx hb dX3_disk_85 (by decide) ?_
            exact ih z1 z2 (z3 + 1) (z4 + 1) σ6 _ _ _ hf hP hD hS (lv_sub hl [2, 3, 4, 1, 0] rfl)
          · have hf := gs_f hf hq
            refine lv_aload_n hx hb dX3_disk_69 rfl (lv_at hl 0 rfl) ?_
            refine va_get (D := (dC, dI)) (ci := 3) (v := .ref (h 4)) (C := RX3) (T := TX3) (N := 11) hx hb hts inG_X3 hown hK hP 0 rfl rfl 4 (by decide) (hts _ mg_369) (fun _ h9 => h9) rfl dX3_disk_70 ?_
            refine lv_iload hx hb dX3_disk_73 (lv_at hl 4 rfl) ?_
            obtain ⟨hin, hf⟩ := gs_gd_e hf
            refine va_zald hx hb hK hP 4 3 rfl rfl hin dX3_disk_75 ?_
            refine lv_if_eq (tgt := 82) hx hb dX3_disk_76 (by decide) (fun hq => ?_) (fun hq => ?_)
            · have hf := gs_t hf hq
              refine lv_iinc (v := z4 + 1) (lv' := [(4, .int (z4 + 1)), (0, .ref (h 0)), (1, .int z1), (2, .int z2), (3, .int z3)]) hx hb dX3_disk_82 hl (k := 4) rfl rfl (by decide) rfl (fun ls hl => ?_)
              refine lv_goto (tgt := 43) hx hb dX3_disk_85 (by decide) ?_
              exact ih z1 z2 z3 (z4 + 1) σ6 _ _ _ hf hP hD hS (lv_sub hl [1, 2, 3, 4, 0] rfl)
            · have hf := gs_f hf hq
              refine lv_iinc (v := z3 + 1) (lv' := [(3, .int (z3 + 1)), (0, .ref (h 0)), (1, .int z1), (2, .int z2), (4, .int z4)]) hx hb dX3_disk_79 hl (k := 3) rfl rfl (by decide) rfl (fun ls hl => ?_)
              refine lv_iinc (v := z4 + 1) (lv' := [(4, .int (z4 + 1)), (3, .int (z3 + 1)), (0, .ref (h 0)), (1, .int z1), (2, .int z2)]) hx hb dX3_disk_82 hl (k := 4) rfl rfl (by decide) rfl (fun ls hl => ?_)
              refine lv_goto (tgt := 43) hx hb dX3_disk_85 (by decide) ?_
              exact ih z1 z2 (z3 + 1) (z4 + 1) σ6 _ _ _ hf hP hD hS (lv_sub hl [2, 3, 4, 1, 0] rfl)
  have hl := lv_entry ([.ref (h 0), .int x1, .int x2]) (n := 5) (Nat.le_of_ble_eq_true rfl)
  rw [lg_entry_eq]
  generalize (lg_sl ([.ref (h 0), .int x1, .int x2]) ++ List.replicate (5 - (lg_sl ([.ref (h 0), .int x1, .int x2])).length) Slot.unset).toArray = ls at hl ⊢
  have hl : lv_has ls 5 [(0, .ref (h 0)), (1, .int x1), (2, .int x2)] := hl
  rw [fn_X3_disk] at hf
  refine lv_iload_n hx hb dX3_disk_0 rfl (lv_at hl 1 rfl) ?_
  refine lv_bipush (v := 7) hx hb dX3_disk_1 (by decide) ?_
  obtain ⟨r1, σ2, hc, hf⟩ := gs_ob_e hf
  have hF := u_free hD hS hA
  refine u_calli (va_runS (As := [.int x1, .int 7]) (rest := []) ⟨hx, hb, hml, hown, hts⟩ (ct_X3_in l dC dI h k T σ s.heap.size x1 7 _ hc) (va_cwS 2 hts (gd_S mg_380 mg_381 mg_36 mg_382) rfl rfl rfl (by decide +kernel) ⟨Nat.le_of_ble_eq_true rfl, Nat.le_of_ble_eq_true rfl⟩) (u_preS zB_g hK hP hD hS hF hZ) rfl rfl hl.1 rfl (lv_room (Nat.le_of_ble_eq_true rfl)) dX3_disk_3 ⟨Nat.le_refl _, Nat.le_refl _⟩) hS hF (fun H locs hP hD hS => ?_)
  refine lv_if_eq (tgt := 17) hx hb dX3_disk_6 (by decide) (fun hq => ?_) (fun hq => ?_)
  · have hf := gs_t hf hq
    refine lv_iconst (v := (-1)) hx hb dX3_disk_17 (by decide) ?_
    exact W.iret (v := (-1)) hx hb hr (fun t ht hW => u_ri (Option.some.inj hf) ht hW hP hK hD hS) hS.2.2 dX3_disk_18
  · have hf := gs_f hf hq
    refine lv_iload_n hx hb dX3_disk_9 rfl (lv_at hl 2 rfl) ?_
    refine lv_iconst (v := 3) hx hb dX3_disk_10 (by decide) ?_
    obtain ⟨r3, σ4, hc, hf⟩ := gs_ob_e hf
    have hF := u_free hD hS hA
    refine u_calli (va_runS (As := [.int x2, .int 3]) (rest := []) ⟨hx, hb, hml, hown, hts⟩ (ct_X3_in l dC dI h k T σ2 H.size x2 3 _ hc) (va_cwS 2 hts (gd_S mg_380 mg_381 mg_36 mg_382) rfl rfl rfl (by decide +kernel) ⟨Nat.le_of_ble_eq_true rfl, Nat.le_of_ble_eq_true rfl⟩) (u_preS zB_g hK hP hD hS hF hZ) rfl rfl hl.1 rfl (lv_room (Nat.le_of_ble_eq_true rfl)) dX3_disk_11 ⟨Nat.le_refl _, Nat.le_refl _⟩) hS hF (fun H locs hP hD hS => ?_)
    refine lv_if_ne (tgt := 19) hx hb dX3_disk_14 (by decide) (fun hq => ?_) (fun hq => ?_)
    · have hf := gs_f hf hq
      refine lv_iload_n hx hb dX3_disk_19 rfl (lv_at hl 2 rfl) ?_
      refine lv_if_ne (tgt := 38) hx hb dX3_disk_20 (by decide) (fun hq => ?_) (fun hq => ?_)
      · have hf := gs_f hf hq
        refine lv_iconst (v := 0) hx hb dX3_disk_38 (by decide) ?_
        refine lv_istore_n (lv' := [(3, .int 0), (0, .ref (h 0)), (1, .int x1), (2, .int x2)]) hx hb dX3_disk_39 rfl hl (by decide) rfl (fun ls hl => ?_)
        refine lv_iconst (v := 0) hx hb dX3_disk_40 (by decide) ?_
        refine lv_istore (lv' := [(4, .int 0), (3, .int 0), (0, .ref (h 0)), (1, .int x1), (2, .int x2)]) hx hb dX3_disk_41 hl (by decide) rfl (fun ls hl => ?_)
        exact L43 gs_fu x1 x2 0 0 σ4 _ _ _ hf hP hD hS (lv_sub hl [2, 3, 4, 1, 0] rfl)
      · have hf := gs_t hf hq
        refine lv_aload_n hx hb dX3_disk_23 rfl (lv_at hl 0 rfl) ?_
        refine va_get (D := (dC, dI)) (ci := 3) (v := .ref (h 5)) (C := RX3) (T := TX3) (N := 11) hx hb hts inG_X3 hown hK hP 0 rfl rfl 5 (by decide) (hts _ mg_370) (fun _ h9 => h9) rfl dX3_disk_24 ?_
        refine lv_iload_n hx hb dX3_disk_27 rfl (lv_at hl 1 rfl) ?_
        obtain ⟨hin, hf⟩ := gs_gd_e hf
        refine va_zald hx hb hK hP 5 4 rfl rfl hin dX3_disk_28 ?_
        refine lv_if_eq (tgt := 36) hx hb dX3_disk_29 (by decide) (fun hq => ?_) (fun hq => ?_)
        · have hf := gs_t hf hq
          refine lv_iconst (v := 1) hx hb dX3_disk_36 (by decide) ?_
          exact W.iret (v := 1) hx hb hr (fun t ht hW => u_ri (Option.some.inj hf) ht hW hP hK hD hS) hS.2.2 dX3_disk_37
        · have hf := gs_f hf hq
          refine lv_iconst (v := 0) hx hb dX3_disk_32 (by decide) ?_
          refine lv_goto (tgt := 37) hx hb dX3_disk_33 (by decide) ?_
          exact W.iret (v := 0) hx hb hr (fun t ht hW => u_ri (Option.some.inj hf) ht hW hP hK hD hS) hS.2.2 dX3_disk_37
    · have hf := gs_t hf hq
      refine lv_iconst (v := (-1)) hx hb dX3_disk_17 (by decide) ?_
      exact W.iret (v := (-1)) hx hb hr (fun t ht hW => u_ri (Option.some.inj hf) ht hW hP hK hD hS) hS.2.2 dX3_disk_18
set_option maxHeartbeats 4000000 in
set_option maxRecDepth 100000 in
theorem ct_X3_free (l : Launch) (dC : Nat → ClassId) (dI : Nat → Nat → Nat) (h : Nat → Nat) (k : Nat → ClassId) (T : Nat) (σ : gS) (sz : Nat) (y : Int32 × gS) (hf : fn_X3_free T σ = some y) : Met l yX3_free wsX3_free ({ frames := 0, cells := 0, slots := 0, locals := 0 }) (va_Pc [.ref (h 0)] (uPre (dC, dI) vwCl (tB k) (wB h k T) zB σ sz)) (va_Qi (fun r u => (r, u) = y) (uAt (dC, dI) vwCl (tB k) (wB h k T) (va_A (wB h k T σ) sz)) (va_A (wB h k T σ) sz)) 0 0 (va_A (wB h k T σ) sz) := by
  refine Met.ofW (cc := cX3_free) (maxL := 3) (ret := (some .int)) (by decide) rfl ?_
  intro p e s m args below meth c s₁ B hml hv
  obtain ⟨rfl, hsz, hP, hK, hD0, hZ⟩ := hv
  have hx := B.exec
  have hb := B.bytes
  have hr := B.returns
  have hts : ∀ w ∈ gG, w.before _ s = true := fun w h => atoms_spec (ws := wsX3_free) B.pre w (List.mem_cons_of_mem _ h)
  have hown : s.vm.findClass RX3 = some m.cls := findClass_of_methodNamed B.named
  have hlocks := B.notSynchronized
  subst hsz
  have hD := hD0.self (sz := s.heap.size)
  generalize hAe : va_A (wB h k T σ) s.heap.size = A at hD hZ ⊢
  have hA : ∀ q : Nat, s.heap.size ≤ q → A q := fun q h => by rw [← hAe]; exact Or.inr h
  have hS : va_S A s.heap s.heap [] := va_S.rf
  have L4 : ∀ (n : Nat), ∀ (z1 : Int32) (z2 : Int32) (σ : gS) (H : Heap) (locs : List Loc) (ls : Array Slot), fn_X3_free_L4 T n z1 z2 σ = some y → va_P (dC, dI) vwCl (wB h k T σ) H → va_D A (wB h k T σ) → va_S A s.heap H locs → lv_has ls 3 [(0, .ref (h 0)), (1, .int z1), (2, .int z2)] → W p l e ({ frames := 0, cells := 0, slots := 0, locals := 0 }) s m ([.ref (h 0)] : List Value).toArray below meth c H locs 0 0 (MQ below (va_Qi (fun r u => (r, u) = y) (uAt (dC, dI) vwCl (tB k) (wB h k T) A) A) ([.ref (h 0)] : List Value).toArray s 0 0 A) (F0 m 4 ls []) := by
    intro n
    induction n with
    | zero => intro z1 z2 σ H locs ls hf; exact absurd hf (by rw [fn_X3_free_L4]; exact nofun)
    | succ n ih =>
      intro z1 z2 σ H locs ls hf hP hD hS hl
      rw [fn_X3_free_L4] at hf
      refine lv_iload_n hx hb dX3_free_4 rfl (lv_at hl 2 rfl) ?_
      refine lv_iconst (v := 3) hx hb dX3_free_5 (by decide) ?_
      refine lv_aload_n hx hb dX3_free_6 rfl (lv_at hl 0 rfl) ?_
      refine va_get (D := (dC, dI)) (ci := 3) (v := .int (σ 0 0)) (C := RX3) (T := TX3) (N := 11) hx hb hts inG_X3 hown hK hP 0 rfl rfl 0 (by decide) (hts _ mg_365) (fun _ h9 => h9) rfl dX3_free_7 ?_
      refine lv_imul hx hb dX3_free_10 ?_
      refine lv_icmp_ge (tgt := 32) hx hb dX3_free_11 (by decide) (fun hq => ?_) (fun hq => ?_)
      · have hf := gs_t hf hq
        refine lv_iload_n hx hb dX3_free_32 rfl (lv_at hl 1 rfl) ?_
        exact W.iret (v := z1) hx hb hr (fun t ht hW => u_ri (Option.some.inj hf) ht hW hP hK hD hS) hS.2.2 dX3_free_33
      · have hf := gs_f hf hq
        refine lv_aload_n hx hb dX3_free_14 rfl (lv_at hl 0 rfl) ?_
        refine va_get (D := (dC, dI)) (ci := 3) (v := .ref (h 6)) (C := RX3) (T := TX3) (N := 11) hx hb hts inG_X3 hown hK hP 0 rfl rfl 6 (by decide) (hts _ mg_371) (fun _ h9 => h9) rfl dX3_free_15 ?_
        refine lv_iload_n hx hb dX3_free_18 rfl (lv_at hl 2 rfl) ?_
        obtain ⟨hin, hf⟩ := gs_gd_e hf
        refine va_iald hx hb hK hP 6 5 rfl rfl hin dX3_free_19 ?_
        refine lv_if_ne (tgt := 26) hx hb dX3_free_20 (by decide) (fun hq => ?_) (fun hq => ?_)
        · have hf := gs_f hf hq
          refine lv_iinc (v := z2 + 1) (lv' := [(2, .int (z2 + 1)), (0, .ref (h 0)), (1, .int z1)]) hx hb dX3_free_26 hl (k := 2) rfl rfl (by decide) rfl (fun ls hl => ?_)
          refine lv_goto (tgt := 4) hx hb dX3_free_29 (by decide) ?_
          exact ih z1 (z2 + 1) σ _ _ _ hf hP hD hS (lv_sub hl [1, 2, 0] rfl)
        · have hf := gs_t hf hq
          refine lv_iinc (v := z1 + 1) (lv' := [(1, .int (z1 + 1)), (0, .ref (h 0)), (2, .int z2)]) hx hb dX3_free_23 hl (k := 1) rfl rfl (by decide) rfl (fun ls hl => ?_)
          refine lv_iinc (v := z2 + 1) (lv' := [(2, .int (z2 + 1)), (1, .int (z1 + 1)), (0, .ref (h 0))]) hx hb dX3_free_26 hl (k := 2) rfl rfl (by decide) rfl (fun ls hl => ?_)
          refine lv_goto (tgt := 4) hx hb dX3_free_29 (by decide) ?_
          exact ih (z1 + 1) (z2 + 1) σ _ _ _ hf hP hD hS (lv_sub hl [2, 1, 0] rfl)
  have hl := lv_entry ([.ref (h 0)]) (n := 3) (Nat.le_of_ble_eq_true rfl)
  rw [lg_entry_eq]
  generalize (lg_sl ([.ref (h 0)]) ++ List.replicate (3 - (lg_sl ([.ref (h 0)])).length) Slot.unset).toArray = ls at hl ⊢
  have hl : lv_has ls 3 [(0, .ref (h 0))] := hl
  rw [fn_X3_free] at hf
  refine lv_iconst (v := 0) hx hb dX3_free_0 (by decide) ?_
  refine lv_istore_n (lv' := [(1, .int 0), (0, .ref (h 0))]) hx hb dX3_free_1 rfl hl (by decide) rfl (fun ls hl => ?_)
  refine lv_iconst (v := 0) hx hb dX3_free_2 (by decide) ?_
  refine lv_istore_n (lv' := [(2, .int 0), (1, .int 0), (0, .ref (h 0))]) hx hb dX3_free_3 rfl hl (by decide) rfl (fun ls hl => ?_)
  exact L4 gs_fu 0 0 σ _ _ _ hf hP hD hS (lv_sub hl [2, 1, 0] rfl)
set_option maxHeartbeats 4000000 in
set_option maxRecDepth 100000 in
theorem ct_X3_columns (l : Launch) (dC : Nat → ClassId) (dI : Nat → Nat → Nat) (h : Nat → Nat) (k : Nat → ClassId) (T : Nat) (σ : gS) (sz : Nat) (x1 : Int32) (y : Int32 × gS) (hf : fn_X3_columns T x1 σ = some y) : Met l yX3_columns wsX3_columns ({ frames := 1, cells := 0, slots := 0, locals := 21 }) (va_Pc [.ref (h 0), .int x1] (uPre (dC, dI) vwCl (tB k) (wB h k T) zB σ sz)) (va_Qi (fun r u => (r, u) = y) (uAt (dC, dI) vwCl (tB k) (wB h k T) (va_A (wB h k T σ) sz)) (va_A (wB h k T σ) sz)) 0 0 (va_A (wB h k T σ) sz) := by
  refine Met.ofW (cc := cX3_columns) (maxL := 4) (ret := (some .int)) (by decide) rfl ?_
  intro p e s m args below meth c s₁ B hml hv
  obtain ⟨rfl, hsz, hP, hK, hD0, hZ⟩ := hv
  have hx := B.exec
  have hb := B.bytes
  have hr := B.returns
  have hts : ∀ w ∈ gG, w.before _ s = true := fun w h => atoms_spec (ws := wsX3_columns) B.pre w (List.mem_cons_of_mem _ h)
  have hown : s.vm.findClass RX3 = some m.cls := findClass_of_methodNamed B.named
  have hlocks := B.notSynchronized
  subst hsz
  have hD := hD0.self (sz := s.heap.size)
  generalize hAe : va_A (wB h k T σ) s.heap.size = A at hD hZ ⊢
  have hA : ∀ q : Nat, s.heap.size ≤ q → A q := fun q h => by rw [← hAe]; exact Or.inr h
  have hS : va_S A s.heap s.heap [] := va_S.rf
  have L4 : ∀ (n : Nat), ∀ (z1 : Int32) (z2 : Int32) (z3 : Int32) (σ : gS) (H : Heap) (locs : List Loc) (ls : Array Slot), fn_X3_columns_L4 T n z1 z2 z3 σ = some y → va_P (dC, dI) vwCl (wB h k T σ) H → va_D A (wB h k T σ) → va_S A s.heap H locs → lv_has ls 4 [(0, .ref (h 0)), (1, .int z1), (2, .int z2), (3, .int z3)] → W p l e ({ frames := 1, cells := 0, slots := 0, locals := 21 }) s m ([.ref (h 0), .int x1] : List Value).toArray below meth c H locs 0 0 (MQ below (va_Qi (fun r u => (r, u) = y) (uAt (dC, dI) vwCl (tB k) (wB h k T) A) A) ([.ref (h 0), .int x1] : List Value).toArray s 0 0 A) (F0 m 4 ls []) := by
    intro n
    induction n with
    | zero => intro z1 z2 z3 σ H locs ls hf; exact absurd hf (by rw [fn_X3_columns_L4]; exact nofun)
    | succ n ih =>
      intro z1 z2 z3 σ H locs ls hf hP hD hS hl
      rw [fn_X3_columns_L4] at hf
      refine lv_iload_n hx hb dX3_columns_4 rfl (lv_at hl 3 rfl) ?_
      refine lv_iconst (v := 4) hx hb dX3_columns_5 (by decide) ?_
      refine lv_aload_n hx hb dX3_columns_6 rfl (lv_at hl 0 rfl) ?_
      refine va_get (D := (dC, dI)) (ci := 3) (v := .int (σ 0 0)) (C := RX3) (T := TX3) (N := 11) hx hb hts inG_X3 hown hK hP 0 rfl rfl 0 (by decide) (hts _ mg_365) (fun _ h9 => h9) rfl dX3_columns_7 ?_
      refine lv_imul hx hb dX3_columns_10 ?_
      refine lv_icmp_ge (tgt := 47) hx hb dX3_columns_11 (by decide) (fun hq => ?_) (fun hq => ?_)
      · have hf := gs_t hf hq
        refine lv_iload_n hx hb dX3_columns_47 rfl (lv_at hl 2 rfl) ?_
        exact W.iret (v := z2) hx hb hr (fun t ht hW => u_ri (Option.some.inj hf) ht hW hP hK hD hS) hS.2.2 dX3_columns_48
      · have hf := gs_f hf hq
        refine lv_iload_n hx hb dX3_columns_14 rfl (lv_at hl 1 rfl) ?_
        refine lv_if_eq (tgt := 30) hx hb dX3_columns_15 (by decide) (fun hq => ?_) (fun hq => ?_)
        · have hf := gs_t hf hq
          refine lv_aload_n hx hb dX3_columns_30 rfl (lv_at hl 0 rfl) ?_
          refine lv_iload_n hx hb dX3_columns_31 rfl (lv_at hl 3 rfl) ?_
          obtain ⟨r1, σ2, hc, hf⟩ := gs_ob_e hf
          have hF := u_free hD hS hA
          refine u_calli (va_runV (As := [.int z3]) (rest := []) ⟨hx, hb, hml, hown, hts⟩ (ct_X3_wrong l dC dI h k T σ H.size z3 _ hc) (cwV 1 hts (gd_V mg_410 mg_411 mg_20 mg_36 mg_412) rfl rfl rfl (by decide +kernel) ⟨Nat.le_of_ble_eq_true rfl, Nat.le_of_ble_eq_true rfl⟩) (u_preV zB_g hK hP hD hS hF hZ (va_recv hK hP (ci := 3) (q0 := 0) rfl rfl)) rfl rfl hl.1 rfl (lv_room (Nat.le_of_ble_eq_true rfl)) dX3_columns_32 ⟨Nat.le_refl _, Nat.le_refl _⟩) hS hF (fun H locs hP hD hS => ?_)
          refine lv_if_eq (tgt := 41) hx hb dX3_columns_35 (by decide) (fun hq => ?_) (fun hq => ?_)
          · have hf := gs_t hf hq
            refine lv_iinc (v := z3 + 1) (lv' := [(3, .int (z3 + 1)), (0, .ref (h 0)), (1, .int z1), (2, .int z2)]) hx hb dX3_columns_41 hl (k := 3) rfl rfl (by decide) rfl (fun ls hl => ?_)
            refine lv_goto (tgt := 4) hx hb dX3_columns_44 (by decide) ?_
            exact ih z1 z2 (z3 + 1) σ2 _ _ _ hf hP hD hS (lv_sub hl [1, 2, 3, 0] rfl)
          · have hf := gs_f hf hq
            refine lv_iinc (v := z2 + 1) (lv' := [(2, .int (z2 + 1)), (0, .ref (h 0)), (1, .int z1), (3, .int z3)]) hx hb dX3_columns_38 hl (k := 2) rfl rfl (by decide) rfl (fun ls hl => ?_)
            refine lv_iinc (v := z3 + 1) (lv' := [(3, .int (z3 + 1)), (2, .int (z2 + 1)), (0, .ref (h 0)), (1, .int z1)]) hx hb dX3_columns_41 hl (k := 3) rfl rfl (by decide) rfl (fun ls hl => ?_)
            refine lv_goto (tgt := 4) hx hb dX3_columns_44 (by decide) ?_
            exact ih z1 (z2 + 1) (z3 + 1) σ2 _ _ _ hf hP hD hS (lv_sub hl [2, 3, 1, 0] rfl)
        · have hf := gs_f hf hq
          refine lv_aload_n hx hb dX3_columns_18 rfl (lv_at hl 0 rfl) ?_
          refine va_get (D := (dC, dI)) (ci := 3) (v := .ref (h 3)) (C := RX3) (T := TX3) (N := 11) hx hb hts inG_X3 hown hK hP 0 rfl rfl 3 (by decide) (hts _ mg_368) (fun _ h9 => h9) rfl dX3_columns_19 ?_
          refine lv_iload_n hx hb dX3_columns_22 rfl (lv_at hl 3 rfl) ?_
          obtain ⟨hin, hf⟩ := gs_gd_e hf
          refine va_zald hx hb hK hP 3 2 rfl rfl hin dX3_columns_23 ?_
          refine lv_if_eq (tgt := 41) hx hb dX3_columns_24 (by decide) (fun hq => ?_) (fun hq => ?_)
          · have hf := gs_t hf hq
            refine lv_iinc (v := z3 + 1) (lv' := [(3, .int (z3 + 1)), (0, .ref (h 0)), (1, .int z1), (2, .int z2)]) hx hb dX3_columns_41 hl (k := 3) rfl rfl (by decide) rfl (fun ls hl => ?_)
            refine lv_goto (tgt := 4) hx hb dX3_columns_44 (by decide) ?_
            exact ih z1 z2 (z3 + 1) σ _ _ _ hf hP hD hS (lv_sub hl [1, 2, 3, 0] rfl)
          · have hf := gs_f hf hq
            refine lv_goto (tgt := 38) hx hb dX3_columns_27 (by decide) ?_
            refine lv_iinc (v := z2 + 1) (lv' := [(2, .int (z2 + 1)), (0, .ref (h 0)), (1, .int z1), (3, .int z3)]) hx hb dX3_columns_38 hl (k := 2) rfl rfl (by decide) rfl (fun ls hl => ?_)
            refine lv_iinc (v := z3 + 1) (lv' := [(3, .int (z3 + 1)), (2, .int (z2 + 1)), (0, .ref (h 0)), (1, .int z1)]) hx hb dX3_columns_41 hl (k := 3) rfl rfl (by decide) rfl (fun ls hl => ?_)
            refine lv_goto (tgt := 4) hx hb dX3_columns_44 (by decide) ?_
            exact ih z1 (z2 + 1) (z3 + 1) σ _ _ _ hf hP hD hS (lv_sub hl [2, 3, 1, 0] rfl)
  have hl := lv_entry ([.ref (h 0), .int x1]) (n := 4) (Nat.le_of_ble_eq_true rfl)
  rw [lg_entry_eq]
  generalize (lg_sl ([.ref (h 0), .int x1]) ++ List.replicate (4 - (lg_sl ([.ref (h 0), .int x1])).length) Slot.unset).toArray = ls at hl ⊢
  have hl : lv_has ls 4 [(0, .ref (h 0)), (1, .int x1)] := hl
  rw [fn_X3_columns] at hf
  refine lv_iconst (v := 0) hx hb dX3_columns_0 (by decide) ?_
  refine lv_istore_n (lv' := [(2, .int 0), (0, .ref (h 0)), (1, .int x1)]) hx hb dX3_columns_1 rfl hl (by decide) rfl (fun ls hl => ?_)
  refine lv_iconst (v := 0) hx hb dX3_columns_2 (by decide) ?_
  refine lv_istore_n (lv' := [(3, .int 0), (2, .int 0), (0, .ref (h 0)), (1, .int x1)]) hx hb dX3_columns_3 rfl hl (by decide) rfl (fun ls hl => ?_)
  exact L4 gs_fu x1 0 0 σ _ _ _ hf hP hD hS (lv_sub hl [2, 3, 1, 0] rfl)
set_option maxHeartbeats 4000000 in
set_option maxRecDepth 100000 in
theorem ct_X3_count (l : Launch) (dC : Nat → ClassId) (dI : Nat → Nat → Nat) (h : Nat → Nat) (k : Nat → ClassId) (T : Nat) (σ : gS) (sz : Nat) (x1 : Int32) (y : Int32 × gS) (hf : fn_X3_count T x1 σ = some y) : Met l yX3_count wsX3_count ({ frames := 2, cells := 0, slots := 0, locals := 44 }) (va_Pc [.ref (h 0), .int x1] (uPre (dC, dI) vwCl (tB k) (wB h k T) zB σ sz)) (va_Qi (fun r u => (r, u) = y) (uAt (dC, dI) vwCl (tB k) (wB h k T) (va_A (wB h k T σ) sz)) (va_A (wB h k T σ) sz)) 0 0 (va_A (wB h k T σ) sz) := by
  refine Met.ofW (cc := cX3_count) (maxL := 4) (ret := (some .int)) (by decide) rfl ?_
  intro p e s m args below meth c s₁ B hml hv
  obtain ⟨rfl, hsz, hP, hK, hD0, hZ⟩ := hv
  have hx := B.exec
  have hb := B.bytes
  have hr := B.returns
  have hts : ∀ w ∈ gG, w.before _ s = true := fun w h => atoms_spec (ws := wsX3_count) B.pre w (List.mem_cons_of_mem _ h)
  have hown : s.vm.findClass RX3 = some m.cls := findClass_of_methodNamed B.named
  have hlocks := B.notSynchronized
  subst hsz
  have hD := hD0.self (sz := s.heap.size)
  generalize hAe : va_A (wB h k T σ) s.heap.size = A at hD hZ ⊢
  have hA : ∀ q : Nat, s.heap.size ≤ q → A q := fun q h => by rw [← hAe]; exact Or.inr h
  have hS : va_S A s.heap s.heap [] := va_S.rf
  have L104 : ∀ (n : Nat), ∀ (z1 : Int32) (z2 : Int32) (z3 : Int32) (σ : gS) (H : Heap) (locs : List Loc) (ls : Array Slot), fn_X3_count_L104 T n z1 z2 z3 σ = some y → va_P (dC, dI) vwCl (wB h k T σ) H → va_D A (wB h k T σ) → va_S A s.heap H locs → lv_has ls 4 [(0, .ref (h 0)), (1, .int z1), (2, .int z2), (3, .int z3)] → W p l e ({ frames := 2, cells := 0, slots := 0, locals := 44 }) s m ([.ref (h 0), .int x1] : List Value).toArray below meth c H locs 0 0 (MQ below (va_Qi (fun r u => (r, u) = y) (uAt (dC, dI) vwCl (tB k) (wB h k T) A) A) ([.ref (h 0), .int x1] : List Value).toArray s 0 0 A) (F0 m 104 ls []) := by
    intro n
    induction n with
    | zero => intro z1 z2 z3 σ H locs ls hf; exact absurd hf (by rw [fn_X3_count_L104]; exact nofun)
    | succ n ih =>
      intro z1 z2 z3 σ H locs ls hf hP hD hS hl
      rw [fn_X3_count_L104] at hf
      refine lv_iload_n hx hb dX3_count_104 rfl (lv_at hl 3 rfl) ?_
      refine lv_iconst (v := 3) hx hb dX3_count_105 (by decide) ?_
      refine lv_aload_n hx hb dX3_count_106 rfl (lv_at hl 0 rfl) ?_
      refine va_get (D := (dC, dI)) (ci := 3) (v := .int (σ 0 0)) (C := RX3) (T := TX3) (N := 11) hx hb hts inG_X3 hown hK hP 0 rfl rfl 0 (by decide) (hts _ mg_365) (fun _ h9 => h9) rfl dX3_count_107 ?_
      refine lv_imul hx hb dX3_count_110 ?_
      refine lv_icmp_ge (tgt := 137) hx hb dX3_count_111 (by decide) (fun hq => ?_) (fun hq => ?_)
      · have hf := gs_t hf hq
        refine lv_iload_n hx hb dX3_count_137 rfl (lv_at hl 2 rfl) ?_
        exact W.iret (v := z2) hx hb hr (fun t ht hW => u_ri (Option.some.inj hf) ht hW hP hK hD hS) hS.2.2 dX3_count_138
      · have hf := gs_f hf hq
        refine lv_iload_n hx hb dX3_count_114 rfl (lv_at hl 1 rfl) ?_
        refine lv_bipush (v := 6) hx hb dX3_count_115 (by decide) ?_
        refine lv_icmp_ne (tgt := 131) hx hb dX3_count_117 (by decide) (fun hq => ?_) (fun hq => ?_)
        · have hf := gs_f hf hq
          refine lv_iinc (v := z3 + 1) (lv' := [(3, .int (z3 + 1)), (0, .ref (h 0)), (1, .int z1), (2, .int z2)]) hx hb dX3_count_131 hl (k := 3) rfl rfl (by decide) rfl (fun ls hl => ?_)
          refine lv_goto (tgt := 104) hx hb dX3_count_134 (by decide) ?_
          exact ih z1 z2 (z3 + 1) σ _ _ _ hf hP hD hS (lv_sub hl [1, 2, 3, 0] rfl)
        · have hf := gs_t hf hq
          refine lv_aload_n hx hb dX3_count_120 rfl (lv_at hl 0 rfl) ?_
          refine lv_iload_n hx hb dX3_count_121 rfl (lv_at hl 3 rfl) ?_
          obtain ⟨r1, σ2, hc, hf⟩ := gs_ob_e hf
          have hF := u_free hD hS hA
          refine u_calli (va_runV (As := [.int z3]) (rest := []) ⟨hx, hb, hml, hown, hts⟩ (ct_X3_run l dC dI h k T σ H.size z3 _ hc) (cwV 1 hts (gd_V mg_386 mg_387 mg_15 mg_36 mg_388) rfl rfl rfl (by decide +kernel) ⟨Nat.le_of_ble_eq_true rfl, Nat.le_of_ble_eq_true rfl⟩) (u_preV zB_g hK hP hD hS hF hZ (va_recv hK hP (ci := 3) (q0 := 0) rfl rfl)) rfl rfl hl.1 rfl (lv_room (Nat.le_of_ble_eq_true rfl)) dX3_count_122 ⟨Nat.le_refl _, Nat.le_refl _⟩) hS hF (fun H locs hP hD hS => ?_)
          refine lv_if_le (tgt := 131) hx hb dX3_count_125 (by decide) (fun hq => ?_) (fun hq => ?_)
          · have hf := gs_t hf hq
            refine lv_iinc (v := z3 + 1) (lv' := [(3, .int (z3 + 1)), (0, .ref (h 0)), (1, .int z1), (2, .int z2)]) hx hb dX3_count_131 hl (k := 3) rfl rfl (by decide) rfl (fun ls hl => ?_)
            refine lv_goto (tgt := 104) hx hb dX3_count_134 (by decide) ?_
            exact ih z1 z2 (z3 + 1) σ2 _ _ _ hf hP hD hS (lv_sub hl [1, 2, 3, 0] rfl)
          · have hf := gs_f hf hq
            refine lv_iinc (v := z2 + 1) (lv' := [(2, .int (z2 + 1)), (0, .ref (h 0)), (1, .int z1), (3, .int z3)]) hx hb dX3_count_128 hl (k := 2) rfl rfl (by decide) rfl (fun ls hl => ?_)
            refine lv_iinc (v := z3 + 1) (lv' := [(3, .int (z3 + 1)), (2, .int (z2 + 1)), (0, .ref (h 0)), (1, .int z1)]) hx hb dX3_count_131 hl (k := 3) rfl rfl (by decide) rfl (fun ls hl => ?_)
            refine lv_goto (tgt := 104) hx hb dX3_count_134 (by decide) ?_
            exact ih z1 (z2 + 1) (z3 + 1) σ2 _ _ _ hf hP hD hS (lv_sub hl [2, 3, 1, 0] rfl)
  have L72 : ∀ (n : Nat), ∀ (z1 : Int32) (z2 : Int32) (z3 : Int32) (σ : gS) (H : Heap) (locs : List Loc) (ls : Array Slot), fn_X3_count_L72 T n z1 z2 z3 σ = some y → va_P (dC, dI) vwCl (wB h k T σ) H → va_D A (wB h k T σ) → va_S A s.heap H locs → lv_has ls 4 [(0, .ref (h 0)), (1, .int z1), (2, .int z2), (3, .int z3)] → W p l e ({ frames := 2, cells := 0, slots := 0, locals := 44 }) s m ([.ref (h 0), .int x1] : List Value).toArray below meth c H locs 0 0 (MQ below (va_Qi (fun r u => (r, u) = y) (uAt (dC, dI) vwCl (tB k) (wB h k T) A) A) ([.ref (h 0), .int x1] : List Value).toArray s 0 0 A) (F0 m 72 ls []) := by
    intro n
    induction n with
    | zero => intro z1 z2 z3 σ H locs ls hf; exact absurd hf (by rw [fn_X3_count_L72]; exact nofun)
    | succ n ih =>
      intro z1 z2 z3 σ H locs ls hf hP hD hS hl
      rw [fn_X3_count_L72] at hf
      refine lv_iload_n hx hb dX3_count_72 rfl (lv_at hl 3 rfl) ?_
      refine lv_aload_n hx hb dX3_count_73 rfl (lv_at hl 0 rfl) ?_
      refine va_get (D := (dC, dI)) (ci := 3) (v := .int (σ 0 0)) (C := RX3) (T := TX3) (N := 11) hx hb hts inG_X3 hown hK hP 0 rfl rfl 0 (by decide) (hts _ mg_365) (fun _ h9 => h9) rfl dX3_count_74 ?_
      refine lv_icmp_ge (tgt := 102) hx hb dX3_count_77 (by decide) (fun hq => ?_) (fun hq => ?_)
      · have hf := gs_t hf hq
        refine lv_iconst (v := 0) hx hb dX3_count_102 (by decide) ?_
        refine lv_istore_n (lv' := [(3, .int 0), (0, .ref (h 0)), (1, .int z1), (2, .int z2)]) hx hb dX3_count_103 rfl hl (by decide) rfl (fun ls hl => ?_)
        exact L104 gs_fu z1 z2 0 σ _ _ _ hf hP hD hS (lv_sub hl [1, 2, 3, 0] rfl)
      · have hf := gs_f hf hq
        refine lv_iload_n hx hb dX3_count_80 rfl (lv_at hl 1 rfl) ?_
        refine lv_iconst (v := 4) hx hb dX3_count_81 (by decide) ?_
        refine lv_icmp_ne (tgt := 96) hx hb dX3_count_82 (by decide) (fun hq => ?_) (fun hq => ?_)
        · have hf := gs_f hf hq
          refine lv_iinc (v := z3 + 1) (lv' := [(3, .int (z3 + 1)), (0, .ref (h 0)), (1, .int z1), (2, .int z2)]) hx hb dX3_count_96 hl (k := 3) rfl rfl (by decide) rfl (fun ls hl => ?_)
          refine lv_goto (tgt := 72) hx hb dX3_count_99 (by decide) ?_
          exact ih z1 z2 (z3 + 1) σ _ _ _ hf hP hD hS (lv_sub hl [1, 2, 3, 0] rfl)
        · have hf := gs_t hf hq
          refine lv_aload_n hx hb dX3_count_85 rfl (lv_at hl 0 rfl) ?_
          refine lv_iload_n hx hb dX3_count_86 rfl (lv_at hl 3 rfl) ?_
          obtain ⟨r3, σ4, hc, hf⟩ := gs_ob_e hf
          have hF := u_free hD hS hA
          refine u_calli (va_runV (As := [.int z3]) (rest := []) ⟨hx, hb, hml, hown, hts⟩ (ct_X3_broken l dC dI h k T σ H.size z3 _ hc) (cwV 1 hts (gd_V mg_407 mg_408 mg_19 mg_36 mg_409) rfl rfl rfl (by decide +kernel) ⟨Nat.le_of_ble_eq_true rfl, Nat.le_of_ble_eq_true rfl⟩) (u_preV zB_g hK hP hD hS hF hZ (va_recv hK hP (ci := 3) (q0 := 0) rfl rfl)) rfl rfl hl.1 rfl (lv_room (Nat.le_of_ble_eq_true rfl)) dX3_count_87 ⟨Nat.le_refl _, Nat.le_refl _⟩) hS hF (fun H locs hP hD hS => ?_)
          refine lv_if_eq (tgt := 96) hx hb dX3_count_90 (by decide) (fun hq => ?_) (fun hq => ?_)
          · have hf := gs_t hf hq
            refine lv_iinc (v := z3 + 1) (lv' := [(3, .int (z3 + 1)), (0, .ref (h 0)), (1, .int z1), (2, .int z2)]) hx hb dX3_count_96 hl (k := 3) rfl rfl (by decide) rfl (fun ls hl => ?_)
            refine lv_goto (tgt := 72) hx hb dX3_count_99 (by decide) ?_
            exact ih z1 z2 (z3 + 1) σ4 _ _ _ hf hP hD hS (lv_sub hl [1, 2, 3, 0] rfl)
          · have hf := gs_f hf hq
            refine lv_iinc (v := z2 + 1) (lv' := [(2, .int (z2 + 1)), (0, .ref (h 0)), (1, .int z1), (3, .int z3)]) hx hb dX3_count_93 hl (k := 2) rfl rfl (by decide) rfl (fun ls hl => ?_)
            refine lv_iinc (v := z3 + 1) (lv' := [(3, .int (z3 + 1)), (2, .int (z2 + 1)), (0, .ref (h 0)), (1, .int z1)]) hx hb dX3_count_96 hl (k := 3) rfl rfl (by decide) rfl (fun ls hl => ?_)
            refine lv_goto (tgt := 72) hx hb dX3_count_99 (by decide) ?_
            exact ih z1 (z2 + 1) (z3 + 1) σ4 _ _ _ hf hP hD hS (lv_sub hl [2, 3, 1, 0] rfl)
  have hl := lv_entry ([.ref (h 0), .int x1]) (n := 4) (Nat.le_of_ble_eq_true rfl)
  rw [lg_entry_eq]
  generalize (lg_sl ([.ref (h 0), .int x1]) ++ List.replicate (4 - (lg_sl ([.ref (h 0), .int x1])).length) Slot.unset).toArray = ls at hl ⊢
  have hl : lv_has ls 4 [(0, .ref (h 0)), (1, .int x1)] := hl
  rw [fn_X3_count] at hf
  refine lv_iload_n hx hb dX3_count_0 rfl (lv_at hl 1 rfl) ?_
  refine lv_if_ne (tgt := 9) hx hb dX3_count_1 (by decide) (fun hq => ?_) (fun hq => ?_)
  · have hf := gs_f hf hq
    refine lv_iload_n hx hb dX3_count_9 rfl (lv_at hl 1 rfl) ?_
    refine lv_iconst (v := 1) hx hb dX3_count_10 (by decide) ?_
    refine lv_icmp_ne (tgt := 23) hx hb dX3_count_11 (by decide) (fun hq => ?_) (fun hq => ?_)
    · have hf := gs_f hf hq
      refine lv_iload_n hx hb dX3_count_23 rfl (lv_at hl 1 rfl) ?_
      refine lv_iconst (v := 2) hx hb dX3_count_24 (by decide) ?_
      refine lv_icmp_ne (tgt := 34) hx hb dX3_count_25 (by decide) (fun hq => ?_) (fun hq => ?_)
      · have hf := gs_f hf hq
        refine lv_iload_n hx hb dX3_count_34 rfl (lv_at hl 1 rfl) ?_
        refine lv_iconst (v := 3) hx hb dX3_count_35 (by decide) ?_
        refine lv_icmp_ne (tgt := 45) hx hb dX3_count_36 (by decide) (fun hq => ?_) (fun hq => ?_)
        · have hf := gs_f hf hq
          refine lv_iload_n hx hb dX3_count_45 rfl (lv_at hl 1 rfl) ?_
          refine lv_iconst (v := 5) hx hb dX3_count_46 (by decide) ?_
          refine lv_icmp_ne (tgt := 55) hx hb dX3_count_47 (by decide) (fun hq => ?_) (fun hq => ?_)
          · have hf := gs_f hf hq
            refine lv_iload_n hx hb dX3_count_55 rfl (lv_at hl 1 rfl) ?_
            refine lv_iconst (v := 4) hx hb dX3_count_56 (by decide) ?_
            refine lv_icmp_eq (tgt := 68) hx hb dX3_count_57 (by decide) (fun hq => ?_) (fun hq => ?_)
            · have hf := gs_t hf hq
              refine lv_iconst (v := 0) hx hb dX3_count_68 (by decide) ?_
              refine lv_istore_n (lv' := [(2, .int 0), (0, .ref (h 0)), (1, .int x1)]) hx hb dX3_count_69 rfl hl (by decide) rfl (fun ls hl => ?_)
              refine lv_iconst (v := 0) hx hb dX3_count_70 (by decide) ?_
              refine lv_istore_n (lv' := [(3, .int 0), (2, .int 0), (0, .ref (h 0)), (1, .int x1)]) hx hb dX3_count_71 rfl hl (by decide) rfl (fun ls hl => ?_)
              exact L72 gs_fu x1 0 0 σ _ _ _ hf hP hD hS (lv_sub hl [2, 3, 1, 0] rfl)
            · have hf := gs_f hf hq
              refine lv_iload_n hx hb dX3_count_60 rfl (lv_at hl 1 rfl) ?_
              refine lv_bipush (v := 6) hx hb dX3_count_61 (by decide) ?_
              refine lv_icmp_eq (tgt := 68) hx hb dX3_count_63 (by decide) (fun hq => ?_) (fun hq => ?_)
              · have hf := gs_t hf hq
                refine lv_iconst (v := 0) hx hb dX3_count_68 (by decide) ?_
                refine lv_istore_n (lv' := [(2, .int 0), (0, .ref (h 0)), (1, .int x1)]) hx hb dX3_count_69 rfl hl (by decide) rfl (fun ls hl => ?_)
                refine lv_iconst (v := 0) hx hb dX3_count_70 (by decide) ?_
                refine lv_istore_n (lv' := [(3, .int 0), (2, .int 0), (0, .ref (h 0)), (1, .int x1)]) hx hb dX3_count_71 rfl hl (by decide) rfl (fun ls hl => ?_)
                exact L72 gs_fu x1 0 0 σ _ _ _ hf hP hD hS (lv_sub hl [2, 3, 1, 0] rfl)
              · have hf := gs_f hf hq
                refine lv_iconst (v := (-1)) hx hb dX3_count_66 (by decide) ?_
                exact W.iret (v := (-1)) hx hb hr (fun t ht hW => u_ri (Option.some.inj hf) ht hW hP hK hD hS) hS.2.2 dX3_count_67
          · have hf := gs_t hf hq
            refine lv_aload_n hx hb dX3_count_50 rfl (lv_at hl 0 rfl) ?_
            refine va_get (D := (dC, dI)) (ci := 3) (v := .int (σ 10 0)) (C := RX3) (T := TX3) (N := 11) hx hb hts inG_X3 hown hK hP 0 rfl rfl 10 (by decide) (hts _ mg_375) (fun _ h9 => h9) rfl dX3_count_51 ?_
            exact W.iret (v := σ 10 0) hx hb hr (fun t ht hW => u_ri (Option.some.inj hf) ht hW hP hK hD hS) hS.2.2 dX3_count_54
        · have hf := gs_t hf hq
          refine lv_aload_n hx hb dX3_count_39 rfl (lv_at hl 0 rfl) ?_
          refine lv_iconst (v := 0) hx hb dX3_count_40 (by decide) ?_
          obtain ⟨r5, σ6, hc, hf⟩ := gs_ob_e hf
          have hF := u_free hD hS hA
          refine u_calli (va_runV (As := [.int 0]) (rest := []) ⟨hx, hb, hml, hown, hts⟩ (ct_X3_columns l dC dI h k T σ s.heap.size 0 _ hc) (cwV 1 hts (gd_V mg_486 mg_487 mg_30 mg_36 mg_488) rfl rfl rfl (by decide +kernel) ⟨Nat.le_of_ble_eq_true rfl, Nat.le_of_ble_eq_true rfl⟩) (u_preV zB_g hK hP hD hS hF hZ (va_recv hK hP (ci := 3) (q0 := 0) rfl rfl)) rfl rfl hl.1 rfl (lv_room (Nat.le_of_ble_eq_true rfl)) dX3_count_41 ⟨Nat.le_refl _, Nat.le_refl _⟩) hS hF (fun H locs hP hD hS => ?_)
          exact W.iret (v := r5) hx hb hr (fun t ht hW => u_ri (Option.some.inj hf) ht hW hP hK hD hS) hS.2.2 dX3_count_44
      · have hf := gs_t hf hq
        refine lv_aload_n hx hb dX3_count_28 rfl (lv_at hl 0 rfl) ?_
        refine lv_iconst (v := 1) hx hb dX3_count_29 (by decide) ?_
        obtain ⟨r7, σ8, hc, hf⟩ := gs_ob_e hf
        have hF := u_free hD hS hA
        refine u_calli (va_runV (As := [.int 1]) (rest := []) ⟨hx, hb, hml, hown, hts⟩ (ct_X3_columns l dC dI h k T σ s.heap.size 1 _ hc) (cwV 1 hts (gd_V mg_486 mg_487 mg_30 mg_36 mg_488) rfl rfl rfl (by decide +kernel) ⟨Nat.le_of_ble_eq_true rfl, Nat.le_of_ble_eq_true rfl⟩) (u_preV zB_g hK hP hD hS hF hZ (va_recv hK hP (ci := 3) (q0 := 0) rfl rfl)) rfl rfl hl.1 rfl (lv_room (Nat.le_of_ble_eq_true rfl)) dX3_count_30 ⟨Nat.le_refl _, Nat.le_refl _⟩) hS hF (fun H locs hP hD hS => ?_)
        exact W.iret (v := r7) hx hb hr (fun t ht hW => u_ri (Option.some.inj hf) ht hW hP hK hD hS) hS.2.2 dX3_count_33
    · have hf := gs_t hf hq
      refine lv_aload_n hx hb dX3_count_14 rfl (lv_at hl 0 rfl) ?_
      refine lv_aload_n hx hb dX3_count_15 rfl (lv_at hl 0 rfl) ?_
      obtain ⟨r9, σ10, hc, hf⟩ := gs_ob_e hf
      have hF := u_free hD hS hA
      refine u_calli (va_runV (As := []) (rest := [.ref (h 0)]) ⟨hx, hb, hml, hown, hts⟩ (ct_X3_longest l dC dI h k T σ s.heap.size _ hc) (cwV 0 hts (gd_V mg_392 mg_393 mg_17 mg_36 mg_394) rfl rfl rfl (by decide +kernel) ⟨Nat.le_of_ble_eq_true rfl, Nat.le_of_ble_eq_true rfl⟩) (u_preV zB_g hK hP hD hS hF hZ (va_recv hK hP (ci := 3) (q0 := 0) rfl rfl)) rfl rfl hl.1 rfl (lv_room (Nat.le_of_ble_eq_true rfl)) dX3_count_16 ⟨Nat.le_refl _, Nat.le_refl _⟩) hS hF (fun H locs hP hD hS => ?_)
      obtain ⟨r11, σ12, hc, hf⟩ := gs_ob_e hf
      have hF := u_free hD hS hA
      refine u_calli (va_runV (As := [.int r9]) (rest := []) ⟨hx, hb, hml, hown, hts⟩ (ct_X3_run l dC dI h k T σ10 H.size r9 _ hc) (cwV 1 hts (gd_V mg_386 mg_387 mg_15 mg_36 mg_388) rfl rfl rfl (by decide +kernel) ⟨Nat.le_of_ble_eq_true rfl, Nat.le_of_ble_eq_true rfl⟩) (u_preV zB_g hK hP hD hS hF hZ (va_recv hK hP (ci := 3) (q0 := 0) rfl rfl)) rfl rfl hl.1 rfl (lv_room (Nat.le_of_ble_eq_true rfl)) dX3_count_19 ⟨Nat.le_refl _, Nat.le_refl _⟩) hS hF (fun H locs hP hD hS => ?_)
      exact W.iret (v := r11) hx hb hr (fun t ht hW => u_ri (Option.some.inj hf) ht hW hP hK hD hS) hS.2.2 dX3_count_22
  · have hf := gs_t hf hq
    refine lv_aload_n hx hb dX3_count_4 rfl (lv_at hl 0 rfl) ?_
    obtain ⟨r13, σ14, hc, hf⟩ := gs_ob_e hf
    have hF := u_free hD hS hA
    refine u_calli (va_runV (As := []) (rest := []) ⟨hx, hb, hml, hown, hts⟩ (ct_X3_free l dC dI h k T σ s.heap.size _ hc) (cwV 0 hts (gd_V mg_483 mg_484 mg_29 mg_36 mg_485) rfl rfl rfl (by decide +kernel) ⟨Nat.le_of_ble_eq_true rfl, Nat.le_of_ble_eq_true rfl⟩) (u_preV zB_g hK hP hD hS hF hZ (va_recv hK hP (ci := 3) (q0 := 0) rfl rfl)) rfl rfl hl.1 rfl (lv_room (Nat.le_of_ble_eq_true rfl)) dX3_count_5 ⟨Nat.le_refl _, Nat.le_refl _⟩) hS hF (fun H locs hP hD hS => ?_)
    exact W.iret (v := r13) hx hb hr (fun t ht hW => u_ri (Option.some.inj hf) ht hW hP hK hD hS) hS.2.2 dX3_count_8
