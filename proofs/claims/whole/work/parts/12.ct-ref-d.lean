set_option maxHeartbeats 4000000 in
set_option maxRecDepth 100000 in
theorem ct_X3_rebuilt (l : Launch) (dC : Nat → ClassId) (dI : Nat → Nat → Nat) (h : Nat → Nat) (k : Nat → ClassId) (T : Nat) (σ : gS) (sz : Nat) (x1 : Int32) (y : Int32 × gS) (hf : fn_X3_rebuilt T x1 σ = some y) : Met l yX3_rebuilt wsX3_rebuilt ({ frames := 2, cells := 0, slots := 0, locals := 44 }) (va_Pc [.ref (h 0), .int x1] (uPre (dC, dI) vwCl (tB k) (wB h k T) zB σ sz)) (va_Qi (fun r u => (r, u) = y) (uAt (dC, dI) vwCl (tB k) (wB h k T) (va_A (wB h k T σ) sz)) (va_A (wB h k T σ) sz)) 0 0 (va_A (wB h k T σ) sz) := by
  refine Met.ofW (cc := cX3_rebuilt) (maxL := 5) (ret := (some .boolean)) (by decide) rfl ?_
  intro p e s m args below meth c s₁ B hml hv
  obtain ⟨rfl, hsz, hP, hK, hD0, hZ⟩ := hv
  have hx := B.exec
  have hb := B.bytes
  have hr := B.returns
  have hts : ∀ w ∈ gG, w.before _ s = true := fun w h => atoms_spec (ws := wsX3_rebuilt) B.pre w (List.mem_cons_of_mem _ h)
  have hown : s.vm.findClass RX3 = some m.cls := findClass_of_methodNamed B.named
  have hlocks := B.notSynchronized
  subst hsz
  have hD := hD0.self (sz := s.heap.size)
  generalize hAe : va_A (wB h k T σ) s.heap.size = A at hD hZ ⊢
  have hA : ∀ q : Nat, s.heap.size ≤ q → A q := fun q h => by rw [← hAe]; exact Or.inr h
  have hS : va_S A s.heap s.heap [] := va_S.rf
  have L14 : ∀ (n : Nat), ∀ (z1 : Int32) (z2 : Int32) (σ : gS) (H : Heap) (locs : List Loc) (ls : Array Slot), fn_X3_rebuilt_L14 T n z1 z2 σ = some y → va_P (dC, dI) vwCl (wB h k T σ) H → va_D A (wB h k T σ) → va_S A s.heap H locs → lv_has ls 5 [(0, .ref (h 0)), (1, .int z1), (2, .int z2)] → W p l e ({ frames := 2, cells := 0, slots := 0, locals := 44 }) s m ([.ref (h 0), .int x1] : List Value).toArray below meth c H locs 0 0 (MQ below (va_Qi (fun r u => (r, u) = y) (uAt (dC, dI) vwCl (tB k) (wB h k T) A) A) ([.ref (h 0), .int x1] : List Value).toArray s 0 0 A) (F0 m 14 ls []) := by
    intro n
    induction n with
    | zero => intro z1 z2 σ H locs ls hf; exact absurd hf (by rw [fn_X3_rebuilt_L14]; exact nofun)
    | succ n ih =>
      intro z1 z2 σ H locs ls hf hP hD hS hl
      rw [fn_X3_rebuilt_L14] at hf
      refine lv_iload_n hx hb dX3_rebuilt_14 rfl (lv_at hl 2 rfl) ?_
      refine lv_iconst (v := 4) hx hb dX3_rebuilt_15 (by decide) ?_
      refine lv_iload_n hx hb dX3_rebuilt_16 rfl (lv_at hl 1 rfl) ?_
      refine lv_imul hx hb dX3_rebuilt_17 ?_
      refine lv_iconst (v := 4) hx hb dX3_rebuilt_18 (by decide) ?_
      refine lv_iadd hx hb dX3_rebuilt_19 ?_
      refine lv_icmp_ge (tgt := 137) hx hb dX3_rebuilt_20 (by decide) (fun hq => ?_) (fun hq => ?_)
      · have hf := gs_t hf hq
        refine lv_iconst (v := 0) hx hb dX3_rebuilt_137 (by decide) ?_
        exact W.zret (v := 0) (ty := .boolean) hx hb hr rfl (fun t ht hW => u_ri (Option.some.inj hf) ht hW hP hK hD hS) hS.2.2 dX3_rebuilt_138
      · have hf := gs_f hf hq
        refine lv_aload_n hx hb dX3_rebuilt_23 rfl (lv_at hl 0 rfl) ?_
        refine va_get (D := (dC, dI)) (ci := 3) (v := .ref (h 3)) (C := RX3) (T := TX3) (N := 11) hx hb hts inG_X3 hown hK hP 0 rfl rfl 3 (by decide) (hts _ mg_368) (fun _ h9 => h9) rfl dX3_rebuilt_24 ?_
        refine lv_iload_n hx hb dX3_rebuilt_27 rfl (lv_at hl 2 rfl) ?_
        obtain ⟨hin, hf⟩ := gs_gd_e hf
        refine va_zald hx hb hK hP 3 2 rfl rfl hin dX3_rebuilt_28 ?_
        refine lv_if_eq (tgt := 49) hx hb dX3_rebuilt_29 (by decide) (fun hq => ?_) (fun hq => ?_)
        · have hf := gs_t hf hq
          refine lv_iconst (v := 0) hx hb dX3_rebuilt_49 (by decide) ?_
          refine lv_istore_n (lv' := [(3, .int 0), (0, .ref (h 0)), (1, .int z1), (2, .int z2)]) hx hb dX3_rebuilt_50 rfl hl (by decide) rfl (fun ls hl => ?_)
          refine lv_aload_n hx hb dX3_rebuilt_51 rfl (lv_at hl 1 rfl) ?_
          refine va_get (D := (dC, dI)) (ci := 3) (v := .ref (h 3)) (C := RX3) (T := TX3) (N := 11) hx hb hts inG_X3 hown hK hP 0 rfl rfl 3 (by decide) (hts _ mg_368) (fun _ h9 => h9) rfl dX3_rebuilt_52 ?_
          refine lv_iload_n hx hb dX3_rebuilt_55 rfl (lv_at hl 3 rfl) ?_
          obtain ⟨hin, hf⟩ := gs_gd_e hf
          refine va_zald hx hb hK hP 3 2 rfl rfl hin dX3_rebuilt_56 ?_
          refine lv_if_eq (tgt := 90) hx hb dX3_rebuilt_57 (by decide) (fun hq => ?_) (fun hq => ?_)
          · have hf := gs_t hf hq
            refine lv_iconst (v := 0) hx hb dX3_rebuilt_90 (by decide) ?_
            refine lv_istore (lv' := [(4, .int 0), (3, .int 0), (0, .ref (h 0)), (1, .int z1), (2, .int z2)]) hx hb dX3_rebuilt_91 hl (by decide) rfl (fun ls hl => ?_)
            refine lv_iload_n hx hb dX3_rebuilt_93 rfl (lv_at hl 1 rfl) ?_
            refine lv_if_ne (tgt := 102) hx hb dX3_rebuilt_94 (by decide) (fun hq => absurd hq (by decide)) (fun hq => ?_)
            refine lv_iload hx hb dX3_rebuilt_97 (lv_at hl 0 rfl) ?_
            refine lv_if_eq (tgt := 131) hx hb dX3_rebuilt_99 (by decide) (fun hq => ?_) (fun hq => absurd hq (by decide))
            refine lv_iinc (v := z2 + 1) (lv' := [(2, .int (z2 + 1)), (4, .int 0), (3, .int 0), (0, .ref (h 0)), (1, .int z1)]) hx hb dX3_rebuilt_131 hl (k := 4) rfl rfl (by decide) rfl (fun ls hl => ?_)
            refine lv_goto (tgt := 14) hx hb dX3_rebuilt_134 (by decide) ?_
            exact ih z1 (z2 + 1) σ _ _ _ hf hP hD hS (lv_sub hl [3, 4, 0] rfl)
          · have hf := gs_f hf hq
            refine lv_iload_n hx hb dX3_rebuilt_60 rfl (lv_at hl 0 rfl) ?_
            refine lv_if_ne (tgt := 90) hx hb dX3_rebuilt_61 (by decide) (fun hq => absurd hq (by decide)) (fun hq => ?_)
            refine lv_aload_n hx hb dX3_rebuilt_64 rfl (lv_at hl 1 rfl) ?_
            refine va_get (D := (dC, dI)) (ci := 3) (v := .ref (h 5)) (C := RX3) (T := TX3) (N := 11) hx hb hts inG_X3 hown hK hP 0 rfl rfl 5 (by decide) (hts _ mg_370) (fun _ h9 => h9) rfl dX3_rebuilt_65 ?_
            refine lv_aload_n hx hb dX3_rebuilt_68 rfl (lv_at hl 1 rfl) ?_
            refine lv_iload_n hx hb dX3_rebuilt_69 rfl (lv_at hl 3 rfl) ?_
            obtain ⟨r3, σ4, hc, hf⟩ := gs_ob_e hf
            have hF := u_free hD hS hA
            refine u_calli (va_runV (As := [.int z2]) (rest := [.ref (h 5)]) ⟨hx, hb, hml, hown, hts⟩ (ct_X3_spare l dC dI h k T σ H.size z2 _ hc) (cwV 1 hts (gd_V mg_432 mg_433 mg_24 mg_36 mg_434) rfl rfl rfl (by decide +kernel) ⟨Nat.le_of_ble_eq_true rfl, Nat.le_of_ble_eq_true rfl⟩) (u_preV zB_g hK hP hD hS hF hZ (va_recv hK hP (ci := 3) (q0 := 0) rfl rfl)) rfl rfl hl.1 rfl (lv_room (Nat.le_of_ble_eq_true rfl)) dX3_rebuilt_70 ⟨Nat.le_refl _, Nat.le_refl _⟩) hS hF (fun H locs hP hD hS => ?_)
            obtain ⟨hin, hf⟩ := gs_gd_e hf
            refine va_zald hx hb hK hP 5 4 rfl rfl hin dX3_rebuilt_73 ?_
            refine lv_if_ne (tgt := 90) hx hb dX3_rebuilt_74 (by decide) (fun hq => ?_) (fun hq => ?_)
            · have hf := gs_f hf hq
              refine lv_iconst (v := 0) hx hb dX3_rebuilt_90 (by decide) ?_
              refine lv_istore (lv' := [(4, .int 0), (3, .int 0), (0, .ref (h 0)), (1, .int z1), (2, .int z2)]) hx hb dX3_rebuilt_91 hl (by decide) rfl (fun ls hl => ?_)
              refine lv_iload_n hx hb dX3_rebuilt_93 rfl (lv_at hl 1 rfl) ?_
              refine lv_if_ne (tgt := 102) hx hb dX3_rebuilt_94 (by decide) (fun hq => absurd hq (by decide)) (fun hq => ?_)
              refine lv_iload hx hb dX3_rebuilt_97 (lv_at hl 0 rfl) ?_
              refine lv_if_eq (tgt := 131) hx hb dX3_rebuilt_99 (by decide) (fun hq => ?_) (fun hq => absurd hq (by decide))
              refine lv_iinc (v := z2 + 1) (lv' := [(2, .int (z2 + 1)), (4, .int 0), (3, .int 0), (0, .ref (h 0)), (1, .int z1)]) hx hb dX3_rebuilt_131 hl (k := 4) rfl rfl (by decide) rfl (fun ls hl => ?_)
              refine lv_goto (tgt := 14) hx hb dX3_rebuilt_134 (by decide) ?_
              exact ih z1 (z2 + 1) σ4 _ _ _ hf hP hD hS (lv_sub hl [3, 4, 0] rfl)
            · have hf := gs_t hf hq
              refine lv_aload_n hx hb dX3_rebuilt_77 rfl (lv_at hl 1 rfl) ?_
              refine lv_iload_n hx hb dX3_rebuilt_78 rfl (lv_at hl 2 rfl) ?_
              obtain ⟨r5, σ6, hc, hf⟩ := gs_ob_e hf
              have hF := u_free hD hS hA
              refine u_calli (va_runV (As := [.int z1]) (rest := []) ⟨hx, hb, hml, hown, hts⟩ (ct_X3_movedOf l dC dI h k T σ4 H.size z1 _ hc) (cwV 1 hts (gd_V mg_453 mg_454 mg_27 mg_36 mg_455) rfl rfl rfl (by decide +kernel) ⟨Nat.le_of_ble_eq_true rfl, Nat.le_of_ble_eq_true rfl⟩) (u_preV zB_g hK hP hD hS hF hZ (va_recv hK hP (ci := 3) (q0 := 0) rfl rfl)) rfl rfl hl.1 rfl (lv_room (Nat.le_of_ble_eq_true rfl)) dX3_rebuilt_79 ⟨Nat.le_refl _, Nat.le_refl _⟩) hS hF (fun H locs hP hD hS => ?_)
              refine lv_iconst (v := 4) hx hb dX3_rebuilt_82 (by decide) ?_
              refine lv_icmp_ne (tgt := 90) hx hb dX3_rebuilt_83 (by decide) (fun hq => ?_) (fun hq => ?_)
              · have hf := gs_f hf hq
                refine lv_iconst (v := 0) hx hb dX3_rebuilt_90 (by decide) ?_
                refine lv_istore (lv' := [(4, .int 0), (3, .int 0), (0, .ref (h 0)), (1, .int z1), (2, .int z2)]) hx hb dX3_rebuilt_91 hl (by decide) rfl (fun ls hl => ?_)
                refine lv_iload_n hx hb dX3_rebuilt_93 rfl (lv_at hl 1 rfl) ?_
                refine lv_if_ne (tgt := 102) hx hb dX3_rebuilt_94 (by decide) (fun hq => absurd hq (by decide)) (fun hq => ?_)
                refine lv_iload hx hb dX3_rebuilt_97 (lv_at hl 0 rfl) ?_
                refine lv_if_eq (tgt := 131) hx hb dX3_rebuilt_99 (by decide) (fun hq => ?_) (fun hq => absurd hq (by decide))
                refine lv_iinc (v := z2 + 1) (lv' := [(2, .int (z2 + 1)), (4, .int 0), (3, .int 0), (0, .ref (h 0)), (1, .int z1)]) hx hb dX3_rebuilt_131 hl (k := 4) rfl rfl (by decide) rfl (fun ls hl => ?_)
                refine lv_goto (tgt := 14) hx hb dX3_rebuilt_134 (by decide) ?_
                exact ih z1 (z2 + 1) σ6 _ _ _ hf hP hD hS (lv_sub hl [3, 4, 0] rfl)
              · have hf := gs_t hf hq
                refine lv_iconst (v := 1) hx hb dX3_rebuilt_86 (by decide) ?_
                refine lv_goto (tgt := 91) hx hb dX3_rebuilt_87 (by decide) ?_
                refine lv_istore (lv' := [(4, .int 1), (3, .int 0), (0, .ref (h 0)), (1, .int z1), (2, .int z2)]) hx hb dX3_rebuilt_91 hl (by decide) rfl (fun ls hl => ?_)
                refine lv_iload_n hx hb dX3_rebuilt_93 rfl (lv_at hl 1 rfl) ?_
                refine lv_if_ne (tgt := 102) hx hb dX3_rebuilt_94 (by decide) (fun hq => absurd hq (by decide)) (fun hq => ?_)
                refine lv_iload hx hb dX3_rebuilt_97 (lv_at hl 0 rfl) ?_
                refine lv_if_eq (tgt := 131) hx hb dX3_rebuilt_99 (by decide) (fun hq => absurd hq (by decide)) (fun hq => ?_)
                refine lv_aload_n hx hb dX3_rebuilt_102 rfl (lv_at hl 2 rfl) ?_
                refine va_get (D := (dC, dI)) (ci := 3) (v := .ref (h 3)) (C := RX3) (T := TX3) (N := 11) hx hb hts inG_X3 hown hK hP 0 rfl rfl 3 (by decide) (hts _ mg_368) (fun _ h9 => h9) rfl dX3_rebuilt_103 ?_
                refine lv_iload_n hx hb dX3_rebuilt_106 rfl (lv_at hl 4 rfl) ?_
                refine lv_iconst (v := 0) hx hb dX3_rebuilt_107 (by decide) ?_
                obtain ⟨hin, hf⟩ := gs_gd_e hf
                refine va_zast hx hb hK hP hD hS 3 2 rfl rfl hin dX3_rebuilt_108 (fun H locs hP hD hS => ?_)
                obtain ⟨σ7, es, hf⟩ := gs_lt_e hf
                have hP : va_P (dC, dI) vwCl (wB h k T σ7) H := by rw [es]; exact hP
                have hD : va_D A (wB h k T σ7) := by rw [es]; exact hD
                clear es
                refine lv_aload_n hx hb dX3_rebuilt_109 rfl (lv_at hl 2 rfl) ?_
                refine va_get (D := (dC, dI)) (ci := 3) (v := .ref (h 2)) (C := RX3) (T := TX3) (N := 11) hx hb hts inG_X3 hown hK hP 0 rfl rfl 2 (by decide) (hts _ mg_367) (fun _ h9 => h9) rfl dX3_rebuilt_110 ?_
                refine lv_iload_n hx hb dX3_rebuilt_113 rfl (lv_at hl 4 rfl) ?_
                refine lv_aload_n hx hb dX3_rebuilt_114 rfl (lv_at hl 2 rfl) ?_
                refine va_get (D := (dC, dI)) (ci := 3) (v := .ref (h 1)) (C := RX3) (T := TX3) (N := 11) hx hb hts inG_X3 hown hK hP 0 rfl rfl 1 (by decide) (hts _ mg_366) (fun _ h9 => h9) rfl dX3_rebuilt_115 ?_
                refine lv_iload_n hx hb dX3_rebuilt_118 rfl (lv_at hl 4 rfl) ?_
                obtain ⟨hin, hf⟩ := gs_gd_e hf
                refine va_iald hx hb hK hP 1 0 rfl rfl hin dX3_rebuilt_119 ?_
                obtain ⟨hin, hf⟩ := gs_gd_e hf
                refine va_iast hx hb hK hP hD hS 2 1 rfl rfl hin dX3_rebuilt_120 (fun H locs hP hD hS => ?_)
                obtain ⟨σ8, es, hf⟩ := gs_lt_e hf
                have hP : va_P (dC, dI) vwCl (wB h k T σ8) H := by rw [es]; exact hP
                have hD : va_D A (wB h k T σ8) := by rw [es]; exact hD
                clear es
                refine lv_aload_n hx hb dX3_rebuilt_121 rfl (lv_at hl 2 rfl) ?_
                refine va_get (D := (dC, dI)) (ci := 3) (v := .ref (h 4)) (C := RX3) (T := TX3) (N := 11) hx hb hts inG_X3 hown hK hP 0 rfl rfl 4 (by decide) (hts _ mg_369) (fun _ h9 => h9) rfl dX3_rebuilt_122 ?_
                refine lv_iload_n hx hb dX3_rebuilt_125 rfl (lv_at hl 4 rfl) ?_
                refine lv_iload hx hb dX3_rebuilt_126 (lv_at hl 0 rfl) ?_
                obtain ⟨hin, hf⟩ := gs_gd_e hf
                refine va_zast hx hb hK hP hD hS 4 3 rfl rfl hin dX3_rebuilt_128 (fun H locs hP hD hS => ?_)
                obtain ⟨σ9, es, hf⟩ := gs_lt_e hf
                have hP : va_P (dC, dI) vwCl (wB h k T σ9) H := by rw [es]; exact hP
                have hD : va_D A (wB h k T σ9) := by rw [es]; exact hD
                clear es
                refine lv_iconst (v := 1) hx hb dX3_rebuilt_129 (by decide) ?_
                exact W.zret (v := 1) (ty := .boolean) hx hb hr rfl (fun t ht hW => u_ri (Option.some.inj hf) ht hW hP hK hD hS) hS.2.2 dX3_rebuilt_130
        · have hf := gs_f hf hq
          refine lv_aload_n hx hb dX3_rebuilt_32 rfl (lv_at hl 0 rfl) ?_
          refine va_get (D := (dC, dI)) (ci := 3) (v := .ref (h 5)) (C := RX3) (T := TX3) (N := 11) hx hb hts inG_X3 hown hK hP 0 rfl rfl 5 (by decide) (hts _ mg_370) (fun _ h9 => h9) rfl dX3_rebuilt_33 ?_
          refine lv_aload_n hx hb dX3_rebuilt_36 rfl (lv_at hl 0 rfl) ?_
          refine lv_iload_n hx hb dX3_rebuilt_37 rfl (lv_at hl 2 rfl) ?_
          obtain ⟨r10, σ11, hc, hf⟩ := gs_ob_e hf
          have hF := u_free hD hS hA
          refine u_calli (va_runV (As := [.int z2]) (rest := [.ref (h 5)]) ⟨hx, hb, hml, hown, hts⟩ (ct_X3_home l dC dI h k T σ H.size z2 _ hc) (cwV 1 hts (gd_V mg_435 mg_436 mg_25 mg_36 mg_437) rfl rfl rfl (by decide +kernel) ⟨Nat.le_of_ble_eq_true rfl, Nat.le_of_ble_eq_true rfl⟩) (u_preV zB_g hK hP hD hS hF hZ (va_recv hK hP (ci := 3) (q0 := 0) rfl rfl)) rfl rfl hl.1 rfl (lv_room (Nat.le_of_ble_eq_true rfl)) dX3_rebuilt_38 ⟨Nat.le_refl _, Nat.le_refl _⟩) hS hF (fun H locs hP hD hS => ?_)
          obtain ⟨hin, hf⟩ := gs_gd_e hf
          refine va_zald hx hb hK hP 5 4 rfl rfl hin dX3_rebuilt_41 ?_
          refine lv_if_ne (tgt := 49) hx hb dX3_rebuilt_42 (by decide) (fun hq => ?_) (fun hq => ?_)
          · have hf := gs_f hf hq
            refine lv_iconst (v := 0) hx hb dX3_rebuilt_49 (by decide) ?_
            refine lv_istore_n (lv' := [(3, .int 0), (0, .ref (h 0)), (1, .int z1), (2, .int z2)]) hx hb dX3_rebuilt_50 rfl hl (by decide) rfl (fun ls hl => ?_)
            refine lv_aload_n hx hb dX3_rebuilt_51 rfl (lv_at hl 1 rfl) ?_
            refine va_get (D := (dC, dI)) (ci := 3) (v := .ref (h 3)) (C := RX3) (T := TX3) (N := 11) hx hb hts inG_X3 hown hK hP 0 rfl rfl 3 (by decide) (hts _ mg_368) (fun _ h9 => h9) rfl dX3_rebuilt_52 ?_
            refine lv_iload_n hx hb dX3_rebuilt_55 rfl (lv_at hl 3 rfl) ?_
            obtain ⟨hin, hf⟩ := gs_gd_e hf
            refine va_zald hx hb hK hP 3 2 rfl rfl hin dX3_rebuilt_56 ?_
            refine lv_if_eq (tgt := 90) hx hb dX3_rebuilt_57 (by decide) (fun hq => ?_) (fun hq => ?_)
            · have hf := gs_t hf hq
              refine lv_iconst (v := 0) hx hb dX3_rebuilt_90 (by decide) ?_
              refine lv_istore (lv' := [(4, .int 0), (3, .int 0), (0, .ref (h 0)), (1, .int z1), (2, .int z2)]) hx hb dX3_rebuilt_91 hl (by decide) rfl (fun ls hl => ?_)
              refine lv_iload_n hx hb dX3_rebuilt_93 rfl (lv_at hl 1 rfl) ?_
              refine lv_if_ne (tgt := 102) hx hb dX3_rebuilt_94 (by decide) (fun hq => absurd hq (by decide)) (fun hq => ?_)
              refine lv_iload hx hb dX3_rebuilt_97 (lv_at hl 0 rfl) ?_
              refine lv_if_eq (tgt := 131) hx hb dX3_rebuilt_99 (by decide) (fun hq => ?_) (fun hq => absurd hq (by decide))
              refine lv_iinc (v := z2 + 1) (lv' := [(2, .int (z2 + 1)), (4, .int 0), (3, .int 0), (0, .ref (h 0)), (1, .int z1)]) hx hb dX3_rebuilt_131 hl (k := 4) rfl rfl (by decide) rfl (fun ls hl => ?_)
              refine lv_goto (tgt := 14) hx hb dX3_rebuilt_134 (by decide) ?_
              exact ih z1 (z2 + 1) σ11 _ _ _ hf hP hD hS (lv_sub hl [3, 4, 0] rfl)
            · have hf := gs_f hf hq
              refine lv_iload_n hx hb dX3_rebuilt_60 rfl (lv_at hl 0 rfl) ?_
              refine lv_if_ne (tgt := 90) hx hb dX3_rebuilt_61 (by decide) (fun hq => absurd hq (by decide)) (fun hq => ?_)
              refine lv_aload_n hx hb dX3_rebuilt_64 rfl (lv_at hl 1 rfl) ?_
              refine va_get (D := (dC, dI)) (ci := 3) (v := .ref (h 5)) (C := RX3) (T := TX3) (N := 11) hx hb hts inG_X3 hown hK hP 0 rfl rfl 5 (by decide) (hts _ mg_370) (fun _ h9 => h9) rfl dX3_rebuilt_65 ?_
              refine lv_aload_n hx hb dX3_rebuilt_68 rfl (lv_at hl 1 rfl) ?_
              refine lv_iload_n hx hb dX3_rebuilt_69 rfl (lv_at hl 3 rfl) ?_
              obtain ⟨r12, σ13, hc, hf⟩ := gs_ob_e hf
              have hF := u_free hD hS hA
              refine u_calli (va_runV (As := [.int z2]) (rest := [.ref (h 5)]) ⟨hx, hb, hml, hown, hts⟩ (ct_X3_spare l dC dI h k T σ11 H.size z2 _ hc) (cwV 1 hts (gd_V mg_432 mg_433 mg_24 mg_36 mg_434) rfl rfl rfl (by decide +kernel) ⟨Nat.le_of_ble_eq_true rfl, Nat.le_of_ble_eq_true rfl⟩) (u_preV zB_g hK hP hD hS hF hZ (va_recv hK hP (ci := 3) (q0 := 0) rfl rfl)) rfl rfl hl.1 rfl (lv_room (Nat.le_of_ble_eq_true rfl)) dX3_rebuilt_70 ⟨Nat.le_refl _, Nat.le_refl _⟩) hS hF (fun H locs hP hD hS => ?_)
              obtain ⟨hin, hf⟩ := gs_gd_e hf
              refine va_zald hx hb hK hP 5 4 rfl rfl hin dX3_rebuilt_73 ?_
              refine lv_if_ne (tgt := 90) hx hb dX3_rebuilt_74 (by decide) (fun hq => ?_) (fun hq => ?_)
              · have hf := gs_f hf hq
                refine lv_iconst (v := 0) hx hb dX3_rebuilt_90 (by decide) ?_
                refine lv_istore (lv' := [(4, .int 0), (3, .int 0), (0, .ref (h 0)), (1, .int z1), (2, .int z2)]) hx hb dX3_rebuilt_91 hl (by decide) rfl (fun ls hl => ?_)
                refine lv_iload_n hx hb dX3_rebuilt_93 rfl (lv_at hl 1 rfl) ?_
                refine lv_if_ne (tgt := 102) hx hb dX3_rebuilt_94 (by decide) (fun hq => absurd hq (by decide)) (fun hq => ?_)
                refine lv_iload hx hb dX3_rebuilt_97 (lv_at hl 0 rfl) ?_
                refine lv_if_eq (tgt := 131) hx hb dX3_rebuilt_99 (by decide) (fun hq => ?_) (fun hq => absurd hq (by decide))
                refine lv_iinc (v := z2 + 1) (lv' := [(2, .int (z2 + 1)), (4, .int 0), (3, .int 0), (0, .ref (h 0)), (1, .int z1)]) hx hb dX3_rebuilt_131 hl (k := 4) rfl rfl (by decide) rfl (fun ls hl => ?_)
                refine lv_goto (tgt := 14) hx hb dX3_rebuilt_134 (by decide) ?_
                exact ih z1 (z2 + 1) σ13 _ _ _ hf hP hD hS (lv_sub hl [3, 4, 0] rfl)
              · have hf := gs_t hf hq
                refine lv_aload_n hx hb dX3_rebuilt_77 rfl (lv_at hl 1 rfl) ?_
                refine lv_iload_n hx hb dX3_rebuilt_78 rfl (lv_at hl 2 rfl) ?_
                obtain ⟨r14, σ15, hc, hf⟩ := gs_ob_e hf
                have hF := u_free hD hS hA
                refine u_calli (va_runV (As := [.int z1]) (rest := []) ⟨hx, hb, hml, hown, hts⟩ (ct_X3_movedOf l dC dI h k T σ13 H.size z1 _ hc) (cwV 1 hts (gd_V mg_453 mg_454 mg_27 mg_36 mg_455) rfl rfl rfl (by decide +kernel) ⟨Nat.le_of_ble_eq_true rfl, Nat.le_of_ble_eq_true rfl⟩) (u_preV zB_g hK hP hD hS hF hZ (va_recv hK hP (ci := 3) (q0 := 0) rfl rfl)) rfl rfl hl.1 rfl (lv_room (Nat.le_of_ble_eq_true rfl)) dX3_rebuilt_79 ⟨Nat.le_refl _, Nat.le_refl _⟩) hS hF (fun H locs hP hD hS => ?_)
                refine lv_iconst (v := 4) hx hb dX3_rebuilt_82 (by decide) ?_
                refine lv_icmp_ne (tgt := 90) hx hb dX3_rebuilt_83 (by decide) (fun hq => ?_) (fun hq => ?_)
                · have hf := gs_f hf hq
                  refine lv_iconst (v := 0) hx hb dX3_rebuilt_90 (by decide) ?_
                  refine lv_istore (lv' := [(4, .int 0), (3, .int 0), (0, .ref (h 0)), (1, .int z1), (2, .int z2)]) hx hb dX3_rebuilt_91 hl (by decide) rfl (fun ls hl => ?_)
                  refine lv_iload_n hx hb dX3_rebuilt_93 rfl (lv_at hl 1 rfl) ?_
                  refine lv_if_ne (tgt := 102) hx hb dX3_rebuilt_94 (by decide) (fun hq => absurd hq (by decide)) (fun hq => ?_)
                  refine lv_iload hx hb dX3_rebuilt_97 (lv_at hl 0 rfl) ?_
                  refine lv_if_eq (tgt := 131) hx hb dX3_rebuilt_99 (by decide) (fun hq => ?_) (fun hq => absurd hq (by decide))
                  refine lv_iinc (v := z2 + 1) (lv' := [(2, .int (z2 + 1)), (4, .int 0), (3, .int 0), (0, .ref (h 0)), (1, .int z1)]) hx hb dX3_rebuilt_131 hl (k := 4) rfl rfl (by decide) rfl (fun ls hl => ?_)
                  refine lv_goto (tgt := 14) hx hb dX3_rebuilt_134 (by decide) ?_
                  exact ih z1 (z2 + 1) σ15 _ _ _ hf hP hD hS (lv_sub hl [3, 4, 0] rfl)
                · have hf := gs_t hf hq
                  refine lv_iconst (v := 1) hx hb dX3_rebuilt_86 (by decide) ?_
                  refine lv_goto (tgt := 91) hx hb dX3_rebuilt_87 (by decide) ?_
                  refine lv_istore (lv' := [(4, .int 1), (3, .int 0), (0, .ref (h 0)), (1, .int z1), (2, .int z2)]) hx hb dX3_rebuilt_91 hl (by decide) rfl (fun ls hl => ?_)
                  refine lv_iload_n hx hb dX3_rebuilt_93 rfl (lv_at hl 1 rfl) ?_
                  refine lv_if_ne (tgt := 102) hx hb dX3_rebuilt_94 (by decide) (fun hq => absurd hq (by decide)) (fun hq => ?_)
                  refine lv_iload hx hb dX3_rebuilt_97 (lv_at hl 0 rfl) ?_
                  refine lv_if_eq (tgt := 131) hx hb dX3_rebuilt_99 (by decide) (fun hq => absurd hq (by decide)) (fun hq => ?_)
                  refine lv_aload_n hx hb dX3_rebuilt_102 rfl (lv_at hl 2 rfl) ?_
                  refine va_get (D := (dC, dI)) (ci := 3) (v := .ref (h 3)) (C := RX3) (T := TX3) (N := 11) hx hb hts inG_X3 hown hK hP 0 rfl rfl 3 (by decide) (hts _ mg_368) (fun _ h9 => h9) rfl dX3_rebuilt_103 ?_
                  refine lv_iload_n hx hb dX3_rebuilt_106 rfl (lv_at hl 4 rfl) ?_
                  refine lv_iconst (v := 0) hx hb dX3_rebuilt_107 (by decide) ?_
                  obtain ⟨hin, hf⟩ := gs_gd_e hf
                  refine va_zast hx hb hK hP hD hS 3 2 rfl rfl hin dX3_rebuilt_108 (fun H locs hP hD hS => ?_)
                  obtain ⟨σ16, es, hf⟩ := gs_lt_e hf
                  have hP : va_P (dC, dI) vwCl (wB h k T σ16) H := by rw [es]; exact hP
                  have hD : va_D A (wB h k T σ16) := by rw [es]; exact hD
                  clear es
                  refine lv_aload_n hx hb dX3_rebuilt_109 rfl (lv_at hl 2 rfl) ?_
                  refine va_get (D := (dC, dI)) (ci := 3) (v := .ref (h 2)) (C := RX3) (T := TX3) (N := 11) hx hb hts inG_X3 hown hK hP 0 rfl rfl 2 (by decide) (hts _ mg_367) (fun _ h9 => h9) rfl dX3_rebuilt_110 ?_
                  refine lv_iload_n hx hb dX3_rebuilt_113 rfl (lv_at hl 4 rfl) ?_
                  refine lv_aload_n hx hb dX3_rebuilt_114 rfl (lv_at hl 2 rfl) ?_
                  refine va_get (D := (dC, dI)) (ci := 3) (v := .ref (h 1)) (C := RX3) (T := TX3) (N := 11) hx hb hts inG_X3 hown hK hP 0 rfl rfl 1 (by decide) (hts _ mg_366) (fun _ h9 => h9) rfl dX3_rebuilt_115 ?_
                  refine lv_iload_n hx hb dX3_rebuilt_118 rfl (lv_at hl 4 rfl) ?_
                  obtain ⟨hin, hf⟩ := gs_gd_e hf
                  refine va_iald hx hb hK hP 1 0 rfl rfl hin dX3_rebuilt_119 ?_
                  obtain ⟨hin, hf⟩ := gs_gd_e hf
                  refine va_iast hx hb hK hP hD hS 2 1 rfl rfl hin dX3_rebuilt_120 (fun H locs hP hD hS => ?_)
                  obtain ⟨σ17, es, hf⟩ := gs_lt_e hf
                  have hP : va_P (dC, dI) vwCl (wB h k T σ17) H := by rw [es]; exact hP
                  have hD : va_D A (wB h k T σ17) := by rw [es]; exact hD
                  clear es
                  refine lv_aload_n hx hb dX3_rebuilt_121 rfl (lv_at hl 2 rfl) ?_
                  refine va_get (D := (dC, dI)) (ci := 3) (v := .ref (h 4)) (C := RX3) (T := TX3) (N := 11) hx hb hts inG_X3 hown hK hP 0 rfl rfl 4 (by decide) (hts _ mg_369) (fun _ h9 => h9) rfl dX3_rebuilt_122 ?_
                  refine lv_iload_n hx hb dX3_rebuilt_125 rfl (lv_at hl 4 rfl) ?_
                  refine lv_iload hx hb dX3_rebuilt_126 (lv_at hl 0 rfl) ?_
                  obtain ⟨hin, hf⟩ := gs_gd_e hf
                  refine va_zast hx hb hK hP hD hS 4 3 rfl rfl hin dX3_rebuilt_128 (fun H locs hP hD hS => ?_)
                  obtain ⟨σ18, es, hf⟩ := gs_lt_e hf
                  have hP : va_P (dC, dI) vwCl (wB h k T σ18) H := by rw [es]; exact hP
                  have hD : va_D A (wB h k T σ18) := by rw [es]; exact hD
                  clear es
                  refine lv_iconst (v := 1) hx hb dX3_rebuilt_129 (by decide) ?_
                  exact W.zret (v := 1) (ty := .boolean) hx hb hr rfl (fun t ht hW => u_ri (Option.some.inj hf) ht hW hP hK hD hS) hS.2.2 dX3_rebuilt_130
          · have hf := gs_t hf hq
            refine lv_iconst (v := 1) hx hb dX3_rebuilt_45 (by decide) ?_
            refine lv_goto (tgt := 50) hx hb dX3_rebuilt_46 (by decide) ?_
            refine lv_istore_n (lv' := [(3, .int 1), (0, .ref (h 0)), (1, .int z1), (2, .int z2)]) hx hb dX3_rebuilt_50 rfl hl (by decide) rfl (fun ls hl => ?_)
            refine lv_aload_n hx hb dX3_rebuilt_51 rfl (lv_at hl 1 rfl) ?_
            refine va_get (D := (dC, dI)) (ci := 3) (v := .ref (h 3)) (C := RX3) (T := TX3) (N := 11) hx hb hts inG_X3 hown hK hP 0 rfl rfl 3 (by decide) (hts _ mg_368) (fun _ h9 => h9) rfl dX3_rebuilt_52 ?_
            refine lv_iload_n hx hb dX3_rebuilt_55 rfl (lv_at hl 3 rfl) ?_
            obtain ⟨hin, hf⟩ := gs_gd_e hf
            refine va_zald hx hb hK hP 3 2 rfl rfl hin dX3_rebuilt_56 ?_
            refine lv_if_eq (tgt := 90) hx hb dX3_rebuilt_57 (by decide) (fun hq => ?_) (fun hq => ?_)
            · have hf := gs_t hf hq
              refine lv_iconst (v := 0) hx hb dX3_rebuilt_90 (by decide) ?_
              refine lv_istore (lv' := [(4, .int 0), (3, .int 1), (0, .ref (h 0)), (1, .int z1), (2, .int z2)]) hx hb dX3_rebuilt_91 hl (by decide) rfl (fun ls hl => ?_)
              refine lv_iload_n hx hb dX3_rebuilt_93 rfl (lv_at hl 1 rfl) ?_
              refine lv_if_ne (tgt := 102) hx hb dX3_rebuilt_94 (by decide) (fun hq => ?_) (fun hq => absurd hq (by decide))
              refine lv_aload_n hx hb dX3_rebuilt_102 rfl (lv_at hl 2 rfl) ?_
              refine va_get (D := (dC, dI)) (ci := 3) (v := .ref (h 3)) (C := RX3) (T := TX3) (N := 11) hx hb hts inG_X3 hown hK hP 0 rfl rfl 3 (by decide) (hts _ mg_368) (fun _ h9 => h9) rfl dX3_rebuilt_103 ?_
              refine lv_iload_n hx hb dX3_rebuilt_106 rfl (lv_at hl 4 rfl) ?_
              refine lv_iconst (v := 0) hx hb dX3_rebuilt_107 (by decide) ?_
              obtain ⟨hin, hf⟩ := gs_gd_e hf
              refine va_zast hx hb hK hP hD hS 3 2 rfl rfl hin dX3_rebuilt_108 (fun H locs hP hD hS => ?_)
              obtain ⟨σ19, es, hf⟩ := gs_lt_e hf
              have hP : va_P (dC, dI) vwCl (wB h k T σ19) H := by rw [es]; exact hP
              have hD : va_D A (wB h k T σ19) := by rw [es]; exact hD
              clear es
              refine lv_aload_n hx hb dX3_rebuilt_109 rfl (lv_at hl 2 rfl) ?_
              refine va_get (D := (dC, dI)) (ci := 3) (v := .ref (h 2)) (C := RX3) (T := TX3) (N := 11) hx hb hts inG_X3 hown hK hP 0 rfl rfl 2 (by decide) (hts _ mg_367) (fun _ h9 => h9) rfl dX3_rebuilt_110 ?_
              refine lv_iload_n hx hb dX3_rebuilt_113 rfl (lv_at hl 4 rfl) ?_
              refine lv_aload_n hx hb dX3_rebuilt_114 rfl (lv_at hl 2 rfl) ?_
              refine va_get (D := (dC, dI)) (ci := 3) (v := .ref (h 1)) (C := RX3) (T := TX3) (N := 11) hx hb hts inG_X3 hown hK hP 0 rfl rfl 1 (by decide) (hts _ mg_366) (fun _ h9 => h9) rfl dX3_rebuilt_115 ?_
              refine lv_iload_n hx hb dX3_rebuilt_118 rfl (lv_at hl 4 rfl) ?_
              obtain ⟨hin, hf⟩ := gs_gd_e hf
              refine va_iald hx hb hK hP 1 0 rfl rfl hin dX3_rebuilt_119 ?_
              obtain ⟨hin, hf⟩ := gs_gd_e hf
              refine va_iast hx hb hK hP hD hS 2 1 rfl rfl hin dX3_rebuilt_120 (fun H locs hP hD hS => ?_)
              obtain ⟨σ20, es, hf⟩ := gs_lt_e hf
              have hP : va_P (dC, dI) vwCl (wB h k T σ20) H := by rw [es]; exact hP
              have hD : va_D A (wB h k T σ20) := by rw [es]; exact hD
              clear es
              refine lv_aload_n hx hb dX3_rebuilt_121 rfl (lv_at hl 2 rfl) ?_
              refine va_get (D := (dC, dI)) (ci := 3) (v := .ref (h 4)) (C := RX3) (T := TX3) (N := 11) hx hb hts inG_X3 hown hK hP 0 rfl rfl 4 (by decide) (hts _ mg_369) (fun _ h9 => h9) rfl dX3_rebuilt_122 ?_
              refine lv_iload_n hx hb dX3_rebuilt_125 rfl (lv_at hl 4 rfl) ?_
              refine lv_iload hx hb dX3_rebuilt_126 (lv_at hl 0 rfl) ?_
              obtain ⟨hin, hf⟩ := gs_gd_e hf
              refine va_zast hx hb hK hP hD hS 4 3 rfl rfl hin dX3_rebuilt_128 (fun H locs hP hD hS => ?_)
              obtain ⟨σ21, es, hf⟩ := gs_lt_e hf
              have hP : va_P (dC, dI) vwCl (wB h k T σ21) H := by rw [es]; exact hP
              have hD : va_D A (wB h k T σ21) := by rw [es]; exact hD
              clear es
              refine lv_iconst (v := 1) hx hb dX3_rebuilt_129 (by decide) ?_
              exact W.zret (v := 1) (ty := .boolean) hx hb hr rfl (fun t ht hW => u_ri (Option.some.inj hf) ht hW hP hK hD hS) hS.2.2 dX3_rebuilt_130
            · have hf := gs_f hf hq
              refine lv_iload_n hx hb dX3_rebuilt_60 rfl (lv_at hl 0 rfl) ?_
              refine lv_if_ne (tgt := 90) hx hb dX3_rebuilt_61 (by decide) (fun hq => ?_) (fun hq => absurd hq (by decide))
              refine lv_iconst (v := 0) hx hb dX3_rebuilt_90 (by decide) ?_
              refine lv_istore (lv' := [(4, .int 0), (3, .int 1), (0, .ref (h 0)), (1, .int z1), (2, .int z2)]) hx hb dX3_rebuilt_91 hl (by decide) rfl (fun ls hl => ?_)
              refine lv_iload_n hx hb dX3_rebuilt_93 rfl (lv_at hl 1 rfl) ?_
              refine lv_if_ne (tgt := 102) hx hb dX3_rebuilt_94 (by decide) (fun hq => ?_) (fun hq => absurd hq (by decide))
              refine lv_aload_n hx hb dX3_rebuilt_102 rfl (lv_at hl 2 rfl) ?_
              refine va_get (D := (dC, dI)) (ci := 3) (v := .ref (h 3)) (C := RX3) (T := TX3) (N := 11) hx hb hts inG_X3 hown hK hP 0 rfl rfl 3 (by decide) (hts _ mg_368) (fun _ h9 => h9) rfl dX3_rebuilt_103 ?_
              refine lv_iload_n hx hb dX3_rebuilt_106 rfl (lv_at hl 4 rfl) ?_
              refine lv_iconst (v := 0) hx hb dX3_rebuilt_107 (by decide) ?_
              obtain ⟨hin, hf⟩ := gs_gd_e hf
              refine va_zast hx hb hK hP hD hS 3 2 rfl rfl hin dX3_rebuilt_108 (fun H locs hP hD hS => ?_)
              obtain ⟨σ22, es, hf⟩ := gs_lt_e hf
              have hP : va_P (dC, dI) vwCl (wB h k T σ22) H := by rw [es]; exact hP
              have hD : va_D A (wB h k T σ22) := by rw [es]; exact hD
              clear es
              refine lv_aload_n hx hb dX3_rebuilt_109 rfl (lv_at hl 2 rfl) ?_
              refine va_get (D := (dC, dI)) (ci := 3) (v := .ref (h 2)) (C := RX3) (T := TX3) (N := 11) hx hb hts inG_X3 hown hK hP 0 rfl rfl 2 (by decide) (hts _ mg_367) (fun _ h9 => h9) rfl dX3_rebuilt_110 ?_
              refine lv_iload_n hx hb dX3_rebuilt_113 rfl (lv_at hl 4 rfl) ?_
              refine lv_aload_n hx hb dX3_rebuilt_114 rfl (lv_at hl 2 rfl) ?_
              refine va_get (D := (dC, dI)) (ci := 3) (v := .ref (h 1)) (C := RX3) (T := TX3) (N := 11) hx hb hts inG_X3 hown hK hP 0 rfl rfl 1 (by decide) (hts _ mg_366) (fun _ h9 => h9) rfl dX3_rebuilt_115 ?_
              refine lv_iload_n hx hb dX3_rebuilt_118 rfl (lv_at hl 4 rfl) ?_
              obtain ⟨hin, hf⟩ := gs_gd_e hf
              refine va_iald hx hb hK hP 1 0 rfl rfl hin dX3_rebuilt_119 ?_
              obtain ⟨hin, hf⟩ := gs_gd_e hf
              refine va_iast hx hb hK hP hD hS 2 1 rfl rfl hin dX3_rebuilt_120 (fun H locs hP hD hS => ?_)
              obtain ⟨σ23, es, hf⟩ := gs_lt_e hf
              have hP : va_P (dC, dI) vwCl (wB h k T σ23) H := by rw [es]; exact hP
              have hD : va_D A (wB h k T σ23) := by rw [es]; exact hD
              clear es
              refine lv_aload_n hx hb dX3_rebuilt_121 rfl (lv_at hl 2 rfl) ?_
              refine va_get (D := (dC, dI)) (ci := 3) (v := .ref (h 4)) (C := RX3) (T := TX3) (N := 11) hx hb hts inG_X3 hown hK hP 0 rfl rfl 4 (by decide) (hts _ mg_369) (fun _ h9 => h9) rfl dX3_rebuilt_122 ?_
              refine lv_iload_n hx hb dX3_rebuilt_125 rfl (lv_at hl 4 rfl) ?_
              refine lv_iload hx hb dX3_rebuilt_126 (lv_at hl 0 rfl) ?_
              obtain ⟨hin, hf⟩ := gs_gd_e hf
              refine va_zast hx hb hK hP hD hS 4 3 rfl rfl hin dX3_rebuilt_128 (fun H locs hP hD hS => ?_)
              obtain ⟨σ24, es, hf⟩ := gs_lt_e hf
              have hP : va_P (dC, dI) vwCl (wB h k T σ24) H := by rw [es]; exact hP
              have hD : va_D A (wB h k T σ24) := by rw [es]; exact hD
              clear es
              refine lv_iconst (v := 1) hx hb dX3_rebuilt_129 (by decide) ?_
              exact W.zret (v := 1) (ty := .boolean) hx hb hr rfl (fun t ht hW => u_ri (Option.some.inj hf) ht hW hP hK hD hS) hS.2.2 dX3_rebuilt_130
  have hl := lv_entry ([.ref (h 0), .int x1]) (n := 5) (Nat.le_of_ble_eq_true rfl)
  rw [lg_entry_eq]
  generalize (lg_sl ([.ref (h 0), .int x1]) ++ List.replicate (5 - (lg_sl ([.ref (h 0), .int x1])).length) Slot.unset).toArray = ls at hl ⊢
  have hl : lv_has ls 5 [(0, .ref (h 0)), (1, .int x1)] := hl
  rw [fn_X3_rebuilt] at hf
  refine lv_aload_n hx hb dX3_rebuilt_0 rfl (lv_at hl 0 rfl) ?_
  refine lv_iload_n hx hb dX3_rebuilt_1 rfl (lv_at hl 1 rfl) ?_
  obtain ⟨r1, σ2, hc, hf⟩ := gs_ob_e hf
  have hF := u_free hD hS hA
  refine u_calli (va_runV (As := [.int x1]) (rest := []) ⟨hx, hb, hml, hown, hts⟩ (ct_X3_broken l dC dI h k T σ s.heap.size x1 _ hc) (cwV 1 hts (gd_V mg_407 mg_408 mg_19 mg_36 mg_409) rfl rfl rfl (by decide +kernel) ⟨Nat.le_of_ble_eq_true rfl, Nat.le_of_ble_eq_true rfl⟩) (u_preV zB_g hK hP hD hS hF hZ (va_recv hK hP (ci := 3) (q0 := 0) rfl rfl)) rfl rfl hl.1 rfl (lv_room (Nat.le_of_ble_eq_true rfl)) dX3_rebuilt_2 ⟨Nat.le_refl _, Nat.le_refl _⟩) hS hF (fun H locs hP hD hS => ?_)
  refine lv_if_eq (tgt := 10) hx hb dX3_rebuilt_5 (by decide) (fun hq => ?_) (fun hq => ?_)
  · have hf := gs_t hf hq
    refine lv_iconst (v := 4) hx hb dX3_rebuilt_10 (by decide) ?_
    refine lv_iload_n hx hb dX3_rebuilt_11 rfl (lv_at hl 1 rfl) ?_
    refine lv_imul hx hb dX3_rebuilt_12 ?_
    refine lv_istore_n (lv' := [(2, .int (4 * x1)), (0, .ref (h 0)), (1, .int x1)]) hx hb dX3_rebuilt_13 rfl hl (by decide) rfl (fun ls hl => ?_)
    exact L14 gs_fu x1 (4 * x1) σ2 _ _ _ hf hP hD hS (lv_sub hl [1, 2, 0] rfl)
  · have hf := gs_f hf hq
    refine lv_iconst (v := 0) hx hb dX3_rebuilt_8 (by decide) ?_
    exact W.zret (v := 0) (ty := .boolean) hx hb hr rfl (fun t ht hW => u_ri (Option.some.inj hf) ht hW hP hK hD hS) hS.2.2 dX3_rebuilt_9
set_option maxHeartbeats 4000000 in
set_option maxRecDepth 100000 in
theorem ct_X3_rebuild (l : Launch) (dC : Nat → ClassId) (dI : Nat → Nat → Nat) (h : Nat → Nat) (k : Nat → ClassId) (T : Nat) (σ : gS) (sz : Nat) (x1 : Int32) (y : Int32 × gS) (hf : fn_X3_rebuild T x1 σ = some y) : Met l yX3_rebuild wsX3_rebuild ({ frames := 3, cells := 0, slots := 0, locals := 68 }) (va_Pc [.ref (h 0), .int x1] (uPre (dC, dI) vwCl (tB k) (wB h k T) zB σ sz)) (va_Qi (fun r u => (r, u) = y) (uAt (dC, dI) vwCl (tB k) (wB h k T) (va_A (wB h k T σ) sz)) (va_A (wB h k T σ) sz)) 0 0 (va_A (wB h k T σ) sz) := by
  refine Met.ofW (cc := cX3_rebuild) (maxL := 4) (ret := (some .int)) (by decide) rfl ?_
  intro p e s m args below meth c s₁ B hml hv
  obtain ⟨rfl, hsz, hP, hK, hD0, hZ⟩ := hv
  have hx := B.exec
  have hb := B.bytes
  have hr := B.returns
  have hts : ∀ w ∈ gG, w.before _ s = true := fun w h => atoms_spec (ws := wsX3_rebuild) B.pre w (List.mem_cons_of_mem _ h)
  have hown : s.vm.findClass RX3 = some m.cls := findClass_of_methodNamed B.named
  have hlocks := B.notSynchronized
  subst hsz
  have hD := hD0.self (sz := s.heap.size)
  generalize hAe : va_A (wB h k T σ) s.heap.size = A at hD hZ ⊢
  have hA : ∀ q : Nat, s.heap.size ≤ q → A q := fun q h => by rw [← hAe]; exact Or.inr h
  have hS : va_S A s.heap s.heap [] := va_S.rf
  have L17 : ∀ (n : Nat), ∀ (z1 : Int32) (z2 : Int32) (z3 : Int32) (σ : gS) (H : Heap) (locs : List Loc) (ls : Array Slot), fn_X3_rebuild_L17 T n z1 z2 z3 σ = some y → va_P (dC, dI) vwCl (wB h k T σ) H → va_D A (wB h k T σ) → va_S A s.heap H locs → lv_has ls 4 [(0, .ref (h 0)), (1, .int z1), (2, .int z2), (3, .int z3)] → W p l e ({ frames := 3, cells := 0, slots := 0, locals := 68 }) s m ([.ref (h 0), .int x1] : List Value).toArray below meth c H locs 0 0 (MQ below (va_Qi (fun r u => (r, u) = y) (uAt (dC, dI) vwCl (tB k) (wB h k T) A) A) ([.ref (h 0), .int x1] : List Value).toArray s 0 0 A) (F0 m 17 ls []) := by
    intro n
    induction n with
    | zero => intro z1 z2 z3 σ H locs ls hf; exact absurd hf (by rw [fn_X3_rebuild_L17]; exact nofun)
    | succ n ih =>
      intro z1 z2 z3 σ H locs ls hf hP hD hS hl
      rw [fn_X3_rebuild_L17] at hf
      refine lv_iload_n hx hb dX3_rebuild_17 rfl (lv_at hl 3 rfl) ?_
      refine lv_aload_n hx hb dX3_rebuild_18 rfl (lv_at hl 0 rfl) ?_
      refine va_get (D := (dC, dI)) (ci := 3) (v := .int (σ 0 0)) (C := RX3) (T := TX3) (N := 11) hx hb hts inG_X3 hown hK hP 0 rfl rfl 0 (by decide) (hts _ mg_365) (fun _ h9 => h9) rfl dX3_rebuild_19 ?_
      refine lv_icmp_ge (tgt := 47) hx hb dX3_rebuild_22 (by decide) (fun hq => ?_) (fun hq => ?_)
      · have hf := gs_t hf hq
        refine lv_iload_n hx hb dX3_rebuild_47 rfl (lv_at hl 2 rfl) ?_
        exact W.iret (v := z2) hx hb hr (fun t ht hW => u_ri (Option.some.inj hf) ht hW hP hK hD hS) hS.2.2 dX3_rebuild_48
      · have hf := gs_f hf hq
        refine lv_iload_n hx hb dX3_rebuild_25 rfl (lv_at hl 2 rfl) ?_
        refine lv_iload_n hx hb dX3_rebuild_26 rfl (lv_at hl 1 rfl) ?_
        refine lv_icmp_ge (tgt := 47) hx hb dX3_rebuild_27 (by decide) (fun hq => ?_) (fun hq => ?_)
        · have hf := gs_t hf hq
          refine lv_iload_n hx hb dX3_rebuild_47 rfl (lv_at hl 2 rfl) ?_
          exact W.iret (v := z2) hx hb hr (fun t ht hW => u_ri (Option.some.inj hf) ht hW hP hK hD hS) hS.2.2 dX3_rebuild_48
        · have hf := gs_f hf hq
          refine lv_aload_n hx hb dX3_rebuild_30 rfl (lv_at hl 0 rfl) ?_
          refine lv_iload_n hx hb dX3_rebuild_31 rfl (lv_at hl 3 rfl) ?_
          obtain ⟨r1, σ2, hc, hf⟩ := gs_ob_e hf
          have hF := u_free hD hS hA
          refine u_calli (va_runV (As := [.int z3]) (rest := []) ⟨hx, hb, hml, hown, hts⟩ (ct_X3_rebuilt l dC dI h k T σ H.size z3 _ hc) (cwV 1 hts (gd_V mg_450 mg_451 mg_26 mg_36 mg_452) rfl rfl rfl (by decide +kernel) ⟨Nat.le_of_ble_eq_true rfl, Nat.le_of_ble_eq_true rfl⟩) (u_preV zB_g hK hP hD hS hF hZ (va_recv hK hP (ci := 3) (q0 := 0) rfl rfl)) rfl rfl hl.1 rfl (lv_room (Nat.le_of_ble_eq_true rfl)) dX3_rebuild_32 ⟨Nat.le_refl _, Nat.le_refl _⟩) hS hF (fun H locs hP hD hS => ?_)
          refine lv_if_eq (tgt := 41) hx hb dX3_rebuild_35 (by decide) (fun hq => ?_) (fun hq => ?_)
          · have hf := gs_t hf hq
            refine lv_iinc (v := z3 + 1) (lv' := [(3, .int (z3 + 1)), (0, .ref (h 0)), (1, .int z1), (2, .int z2)]) hx hb dX3_rebuild_41 hl (k := 3) rfl rfl (by decide) rfl (fun ls hl => ?_)
            refine lv_goto (tgt := 17) hx hb dX3_rebuild_44 (by decide) ?_
            exact ih z1 z2 (z3 + 1) σ2 _ _ _ hf hP hD hS (lv_sub hl [1, 2, 3, 0] rfl)
          · have hf := gs_f hf hq
            refine lv_iinc (v := z2 + 1) (lv' := [(2, .int (z2 + 1)), (0, .ref (h 0)), (1, .int z1), (3, .int z3)]) hx hb dX3_rebuild_38 hl (k := 2) rfl rfl (by decide) rfl (fun ls hl => ?_)
            refine lv_iinc (v := z3 + 1) (lv' := [(3, .int (z3 + 1)), (2, .int (z2 + 1)), (0, .ref (h 0)), (1, .int z1)]) hx hb dX3_rebuild_41 hl (k := 3) rfl rfl (by decide) rfl (fun ls hl => ?_)
            refine lv_goto (tgt := 17) hx hb dX3_rebuild_44 (by decide) ?_
            exact ih z1 (z2 + 1) (z3 + 1) σ2 _ _ _ hf hP hD hS (lv_sub hl [2, 3, 1, 0] rfl)
  have hl := lv_entry ([.ref (h 0), .int x1]) (n := 4) (Nat.le_of_ble_eq_true rfl)
  rw [lg_entry_eq]
  generalize (lg_sl ([.ref (h 0), .int x1]) ++ List.replicate (4 - (lg_sl ([.ref (h 0), .int x1])).length) Slot.unset).toArray = ls at hl ⊢
  have hl : lv_has ls 4 [(0, .ref (h 0)), (1, .int x1)] := hl
  rw [fn_X3_rebuild] at hf
  refine lv_iload_n hx hb dX3_rebuild_0 rfl (lv_at hl 1 rfl) ?_
  refine lv_iconst (v := 1) hx hb dX3_rebuild_1 (by decide) ?_
  refine lv_icmp_lt (tgt := 11) hx hb dX3_rebuild_2 (by decide) (fun hq => ?_) (fun hq => ?_)
  · have hf := gs_t hf hq
    refine lv_iconst (v := (-1)) hx hb dX3_rebuild_11 (by decide) ?_
    exact W.iret (v := (-1)) hx hb hr (fun t ht hW => u_ri (Option.some.inj hf) ht hW hP hK hD hS) hS.2.2 dX3_rebuild_12
  · have hf := gs_f hf hq
    refine lv_iload_n hx hb dX3_rebuild_5 rfl (lv_at hl 1 rfl) ?_
    refine lv_bipush (v := 21) hx hb dX3_rebuild_6 (by decide) ?_
    refine lv_icmp_le (tgt := 13) hx hb dX3_rebuild_8 (by decide) (fun hq => ?_) (fun hq => ?_)
    · have hf := gs_t hf hq
      refine lv_iconst (v := 0) hx hb dX3_rebuild_13 (by decide) ?_
      refine lv_istore_n (lv' := [(2, .int 0), (0, .ref (h 0)), (1, .int x1)]) hx hb dX3_rebuild_14 rfl hl (by decide) rfl (fun ls hl => ?_)
      refine lv_iconst (v := 0) hx hb dX3_rebuild_15 (by decide) ?_
      refine lv_istore_n (lv' := [(3, .int 0), (2, .int 0), (0, .ref (h 0)), (1, .int x1)]) hx hb dX3_rebuild_16 rfl hl (by decide) rfl (fun ls hl => ?_)
      exact L17 gs_fu x1 0 0 σ _ _ _ hf hP hD hS (lv_sub hl [2, 3, 1, 0] rfl)
    · have hf := gs_f hf hq
      refine lv_iconst (v := (-1)) hx hb dX3_rebuild_11 (by decide) ?_
      exact W.iret (v := (-1)) hx hb hr (fun t ht hW => u_ri (Option.some.inj hf) ht hW hP hK hD hS) hS.2.2 dX3_rebuild_12
set_option maxHeartbeats 4000000 in
set_option maxRecDepth 100000 in
theorem ct_X3_moveBack (l : Launch) (dC : Nat → ClassId) (dI : Nat → Nat → Nat) (h : Nat → Nat) (k : Nat → ClassId) (T : Nat) (σ : gS) (sz : Nat) (x1 : Int32) (y : Int32 × gS) (hf : fn_X3_moveBack T x1 σ = some y) : Met l yX3_moveBack wsX3_moveBack ({ frames := 1, cells := 0, slots := 0, locals := 23 }) (va_Pc [.ref (h 0), .int x1] (uPre (dC, dI) vwCl (tB k) (wB h k T) zB σ sz)) (va_Qi (fun r u => (r, u) = y) (uAt (dC, dI) vwCl (tB k) (wB h k T) (va_A (wB h k T σ) sz)) (va_A (wB h k T σ) sz)) 0 0 (va_A (wB h k T σ) sz) := by
  refine Met.ofW (cc := cX3_moveBack) (maxL := 4) (ret := (some .int)) (by decide) rfl ?_
  intro p e s m args below meth c s₁ B hml hv
  obtain ⟨rfl, hsz, hP, hK, hD0, hZ⟩ := hv
  have hx := B.exec
  have hb := B.bytes
  have hr := B.returns
  have hts : ∀ w ∈ gG, w.before _ s = true := fun w h => atoms_spec (ws := wsX3_moveBack) B.pre w (List.mem_cons_of_mem _ h)
  have hown : s.vm.findClass RX3 = some m.cls := findClass_of_methodNamed B.named
  have hlocks := B.notSynchronized
  subst hsz
  have hD := hD0.self (sz := s.heap.size)
  generalize hAe : va_A (wB h k T σ) s.heap.size = A at hD hZ ⊢
  have hA : ∀ q : Nat, s.heap.size ≤ q → A q := fun q h => by rw [← hAe]; exact Or.inr h
  have hS : va_S A s.heap s.heap [] := va_S.rf
  have L17 : ∀ (n : Nat), ∀ (z1 : Int32) (z2 : Int32) (z3 : Int32) (σ : gS) (H : Heap) (locs : List Loc) (ls : Array Slot), fn_X3_moveBack_L17 T n z1 z2 z3 σ = some y → va_P (dC, dI) vwCl (wB h k T σ) H → va_D A (wB h k T σ) → va_S A s.heap H locs → lv_has ls 4 [(0, .ref (h 0)), (1, .int z1), (2, .int z2), (3, .int z3)] → W p l e ({ frames := 1, cells := 0, slots := 0, locals := 23 }) s m ([.ref (h 0), .int x1] : List Value).toArray below meth c H locs 0 0 (MQ below (va_Qi (fun r u => (r, u) = y) (uAt (dC, dI) vwCl (tB k) (wB h k T) A) A) ([.ref (h 0), .int x1] : List Value).toArray s 0 0 A) (F0 m 17 ls []) := by
    intro n
    induction n with
    | zero => intro z1 z2 z3 σ H locs ls hf; exact absurd hf (by rw [fn_X3_moveBack_L17]; exact nofun)
    | succ n ih =>
      intro z1 z2 z3 σ H locs ls hf hP hD hS hl
      rw [fn_X3_moveBack_L17] at hf
      refine lv_iload_n hx hb dX3_moveBack_17 rfl (lv_at hl 3 rfl) ?_
      refine lv_iconst (v := 4) hx hb dX3_moveBack_18 (by decide) ?_
      refine lv_aload_n hx hb dX3_moveBack_19 rfl (lv_at hl 0 rfl) ?_
      refine va_get (D := (dC, dI)) (ci := 3) (v := .int (σ 0 0)) (C := RX3) (T := TX3) (N := 11) hx hb hts inG_X3 hown hK hP 0 rfl rfl 0 (by decide) (hts _ mg_365) (fun _ h9 => h9) rfl dX3_moveBack_20 ?_
      refine lv_imul hx hb dX3_moveBack_23 ?_
      refine lv_icmp_ge (tgt := 70) hx hb dX3_moveBack_24 (by decide) (fun hq => ?_) (fun hq => ?_)
      · have hf := gs_t hf hq
        refine lv_iload_n hx hb dX3_moveBack_70 rfl (lv_at hl 2 rfl) ?_
        exact W.iret (v := z2) hx hb hr (fun t ht hW => u_ri (Option.some.inj hf) ht hW hP hK hD hS) hS.2.2 dX3_moveBack_71
      · have hf := gs_f hf hq
        refine lv_iload_n hx hb dX3_moveBack_27 rfl (lv_at hl 2 rfl) ?_
        refine lv_iload_n hx hb dX3_moveBack_28 rfl (lv_at hl 1 rfl) ?_
        refine lv_icmp_ge (tgt := 70) hx hb dX3_moveBack_29 (by decide) (fun hq => ?_) (fun hq => ?_)
        · have hf := gs_t hf hq
          refine lv_iload_n hx hb dX3_moveBack_70 rfl (lv_at hl 2 rfl) ?_
          exact W.iret (v := z2) hx hb hr (fun t ht hW => u_ri (Option.some.inj hf) ht hW hP hK hD hS) hS.2.2 dX3_moveBack_71
        · have hf := gs_f hf hq
          refine lv_aload_n hx hb dX3_moveBack_32 rfl (lv_at hl 0 rfl) ?_
          refine va_get (D := (dC, dI)) (ci := 3) (v := .ref (h 4)) (C := RX3) (T := TX3) (N := 11) hx hb hts inG_X3 hown hK hP 0 rfl rfl 4 (by decide) (hts _ mg_369) (fun _ h9 => h9) rfl dX3_moveBack_33 ?_
          refine lv_iload_n hx hb dX3_moveBack_36 rfl (lv_at hl 3 rfl) ?_
          obtain ⟨hin, hf⟩ := gs_gd_e hf
          refine va_zald hx hb hK hP 4 3 rfl rfl hin dX3_moveBack_37 ?_
          refine lv_if_eq (tgt := 64) hx hb dX3_moveBack_38 (by decide) (fun hq => ?_) (fun hq => ?_)
          · have hf := gs_t hf hq
            refine lv_iinc (v := z3 + 1) (lv' := [(3, .int (z3 + 1)), (0, .ref (h 0)), (1, .int z1), (2, .int z2)]) hx hb dX3_moveBack_64 hl (k := 3) rfl rfl (by decide) rfl (fun ls hl => ?_)
            refine lv_goto (tgt := 17) hx hb dX3_moveBack_67 (by decide) ?_
            exact ih z1 z2 (z3 + 1) σ _ _ _ hf hP hD hS (lv_sub hl [1, 2, 3, 0] rfl)
          · have hf := gs_f hf hq
            refine lv_aload_n hx hb dX3_moveBack_41 rfl (lv_at hl 0 rfl) ?_
            refine va_get (D := (dC, dI)) (ci := 3) (v := .ref (h 5)) (C := RX3) (T := TX3) (N := 11) hx hb hts inG_X3 hown hK hP 0 rfl rfl 5 (by decide) (hts _ mg_370) (fun _ h9 => h9) rfl dX3_moveBack_42 ?_
            refine lv_aload_n hx hb dX3_moveBack_45 rfl (lv_at hl 0 rfl) ?_
            refine lv_iload_n hx hb dX3_moveBack_46 rfl (lv_at hl 3 rfl) ?_
            obtain ⟨r1, σ2, hc, hf⟩ := gs_ob_e hf
            have hF := u_free hD hS hA
            refine u_calli (va_runV (As := [.int z3]) (rest := [.ref (h 5)]) ⟨hx, hb, hml, hown, hts⟩ (ct_X3_home l dC dI h k T σ H.size z3 _ hc) (cwV 1 hts (gd_V mg_435 mg_436 mg_25 mg_36 mg_437) rfl rfl rfl (by decide +kernel) ⟨Nat.le_of_ble_eq_true rfl, Nat.le_of_ble_eq_true rfl⟩) (u_preV zB_g hK hP hD hS hF hZ (va_recv hK hP (ci := 3) (q0 := 0) rfl rfl)) rfl rfl hl.1 rfl (lv_room (Nat.le_of_ble_eq_true rfl)) dX3_moveBack_47 ⟨Nat.le_refl _, Nat.le_refl _⟩) hS hF (fun H locs hP hD hS => ?_)
            obtain ⟨hin, hf⟩ := gs_gd_e hf
            refine va_zald hx hb hK hP 5 4 rfl rfl hin dX3_moveBack_50 ?_
            refine lv_if_ne (tgt := 64) hx hb dX3_moveBack_51 (by decide) (fun hq => ?_) (fun hq => ?_)
            · have hf := gs_f hf hq
              refine lv_iinc (v := z3 + 1) (lv' := [(3, .int (z3 + 1)), (0, .ref (h 0)), (1, .int z1), (2, .int z2)]) hx hb dX3_moveBack_64 hl (k := 3) rfl rfl (by decide) rfl (fun ls hl => ?_)
              refine lv_goto (tgt := 17) hx hb dX3_moveBack_67 (by decide) ?_
              exact ih z1 z2 (z3 + 1) σ2 _ _ _ hf hP hD hS (lv_sub hl [1, 2, 3, 0] rfl)
            · have hf := gs_t hf hq
              refine lv_aload_n hx hb dX3_moveBack_54 rfl (lv_at hl 0 rfl) ?_
              refine va_get (D := (dC, dI)) (ci := 3) (v := .ref (h 4)) (C := RX3) (T := TX3) (N := 11) hx hb hts inG_X3 hown hK hP 0 rfl rfl 4 (by decide) (hts _ mg_369) (fun _ h9 => h9) rfl dX3_moveBack_55 ?_
              refine lv_iload_n hx hb dX3_moveBack_58 rfl (lv_at hl 3 rfl) ?_
              refine lv_iconst (v := 0) hx hb dX3_moveBack_59 (by decide) ?_
              obtain ⟨hin, hf⟩ := gs_gd_e hf
              refine va_zast hx hb hK hP hD hS 4 3 rfl rfl hin dX3_moveBack_60 (fun H locs hP hD hS => ?_)
              obtain ⟨σ3, es, hf⟩ := gs_lt_e hf
              have hP : va_P (dC, dI) vwCl (wB h k T σ3) H := by rw [es]; exact hP
              have hD : va_D A (wB h k T σ3) := by rw [es]; exact hD
              clear es
              refine lv_iinc (v := z2 + 1) (lv' := [(2, .int (z2 + 1)), (0, .ref (h 0)), (1, .int z1), (3, .int z3)]) hx hb dX3_moveBack_61 hl (k := 2) rfl rfl (by decide) rfl (fun ls hl => ?_)
              refine lv_iinc (v := z3 + 1) (lv' := [(3, .int (z3 + 1)), (2, .int (z2 + 1)), (0, .ref (h 0)), (1, .int z1)]) hx hb dX3_moveBack_64 hl (k := 3) rfl rfl (by decide) rfl (fun ls hl => ?_)
              refine lv_goto (tgt := 17) hx hb dX3_moveBack_67 (by decide) ?_
              exact ih z1 (z2 + 1) (z3 + 1) σ3 _ _ _ hf hP hD hS (lv_sub hl [2, 3, 1, 0] rfl)
  have hl := lv_entry ([.ref (h 0), .int x1]) (n := 4) (Nat.le_of_ble_eq_true rfl)
  rw [lg_entry_eq]
  generalize (lg_sl ([.ref (h 0), .int x1]) ++ List.replicate (4 - (lg_sl ([.ref (h 0), .int x1])).length) Slot.unset).toArray = ls at hl ⊢
  have hl : lv_has ls 4 [(0, .ref (h 0)), (1, .int x1)] := hl
  rw [fn_X3_moveBack] at hf
  refine lv_iload_n hx hb dX3_moveBack_0 rfl (lv_at hl 1 rfl) ?_
  refine lv_iconst (v := 1) hx hb dX3_moveBack_1 (by decide) ?_
  refine lv_icmp_lt (tgt := 11) hx hb dX3_moveBack_2 (by decide) (fun hq => ?_) (fun hq => ?_)
  · have hf := gs_t hf hq
    refine lv_iconst (v := (-1)) hx hb dX3_moveBack_11 (by decide) ?_
    exact W.iret (v := (-1)) hx hb hr (fun t ht hW => u_ri (Option.some.inj hf) ht hW hP hK hD hS) hS.2.2 dX3_moveBack_12
  · have hf := gs_f hf hq
    refine lv_iload_n hx hb dX3_moveBack_5 rfl (lv_at hl 1 rfl) ?_
    refine lv_bipush (v := 21) hx hb dX3_moveBack_6 (by decide) ?_
    refine lv_icmp_le (tgt := 13) hx hb dX3_moveBack_8 (by decide) (fun hq => ?_) (fun hq => ?_)
    · have hf := gs_t hf hq
      refine lv_iconst (v := 0) hx hb dX3_moveBack_13 (by decide) ?_
      refine lv_istore_n (lv' := [(2, .int 0), (0, .ref (h 0)), (1, .int x1)]) hx hb dX3_moveBack_14 rfl hl (by decide) rfl (fun ls hl => ?_)
      refine lv_iconst (v := 0) hx hb dX3_moveBack_15 (by decide) ?_
      refine lv_istore_n (lv' := [(3, .int 0), (2, .int 0), (0, .ref (h 0)), (1, .int x1)]) hx hb dX3_moveBack_16 rfl hl (by decide) rfl (fun ls hl => ?_)
      exact L17 gs_fu x1 0 0 σ _ _ _ hf hP hD hS (lv_sub hl [2, 3, 1, 0] rfl)
    · have hf := gs_f hf hq
      refine lv_iconst (v := (-1)) hx hb dX3_moveBack_11 (by decide) ?_
      exact W.iret (v := (-1)) hx hb hr (fun t ht hW => u_ri (Option.some.inj hf) ht hW hP hK hD hS) hS.2.2 dX3_moveBack_12
set_option maxHeartbeats 4000000 in
set_option maxRecDepth 100000 in
theorem ct_X3_scrub (l : Launch) (dC : Nat → ClassId) (dI : Nat → Nat → Nat) (h : Nat → Nat) (k : Nat → ClassId) (T : Nat) (σ : gS) (sz : Nat) (x1 : Int32) (y : Int32 × gS) (hf : fn_X3_scrub T x1 σ = some y) : Met l yX3_scrub wsX3_scrub ({ frames := 3, cells := 0, slots := 0, locals := 67 }) (va_Pc [.ref (h 0), .int x1] (uPre (dC, dI) vwCl (tB k) (wB h k T) zB σ sz)) (va_Qi (fun r u => (r, u) = y) (uAt (dC, dI) vwCl (tB k) (wB h k T) (va_A (wB h k T σ) sz)) (va_A (wB h k T σ) sz)) 0 0 (va_A (wB h k T σ) sz) := by
  refine Met.ofW (cc := cX3_scrub) (maxL := 4) (ret := (some .int)) (by decide) rfl ?_
  intro p e s m args below meth c s₁ B hml hv
  obtain ⟨rfl, hsz, hP, hK, hD0, hZ⟩ := hv
  have hx := B.exec
  have hb := B.bytes
  have hr := B.returns
  have hts : ∀ w ∈ gG, w.before _ s = true := fun w h => atoms_spec (ws := wsX3_scrub) B.pre w (List.mem_cons_of_mem _ h)
  have hown : s.vm.findClass RX3 = some m.cls := findClass_of_methodNamed B.named
  have hlocks := B.notSynchronized
  subst hsz
  have hD := hD0.self (sz := s.heap.size)
  generalize hAe : va_A (wB h k T σ) s.heap.size = A at hD hZ ⊢
  have hA : ∀ q : Nat, s.heap.size ≤ q → A q := fun q h => by rw [← hAe]; exact Or.inr h
  have hS : va_S A s.heap s.heap [] := va_S.rf
  have L17 : ∀ (n : Nat), ∀ (z1 : Int32) (z2 : Int32) (z3 : Int32) (σ : gS) (H : Heap) (locs : List Loc) (ls : Array Slot), fn_X3_scrub_L17 T n z1 z2 z3 σ = some y → va_P (dC, dI) vwCl (wB h k T σ) H → va_D A (wB h k T σ) → va_S A s.heap H locs → lv_has ls 4 [(0, .ref (h 0)), (1, .int z1), (2, .int z2), (3, .int z3)] → W p l e ({ frames := 3, cells := 0, slots := 0, locals := 67 }) s m ([.ref (h 0), .int x1] : List Value).toArray below meth c H locs 0 0 (MQ below (va_Qi (fun r u => (r, u) = y) (uAt (dC, dI) vwCl (tB k) (wB h k T) A) A) ([.ref (h 0), .int x1] : List Value).toArray s 0 0 A) (F0 m 17 ls []) := by
    intro n
    induction n with
    | zero => intro z1 z2 z3 σ H locs ls hf; exact absurd hf (by rw [fn_X3_scrub_L17]; exact nofun)
    | succ n ih =>
      intro z1 z2 z3 σ H locs ls hf hP hD hS hl
      rw [fn_X3_scrub_L17] at hf
      refine lv_iload_n hx hb dX3_scrub_17 rfl (lv_at hl 3 rfl) ?_
      refine lv_iload_n hx hb dX3_scrub_18 rfl (lv_at hl 1 rfl) ?_
      refine lv_icmp_ge (tgt := 54) hx hb dX3_scrub_19 (by decide) (fun hq => ?_) (fun hq => ?_)
      · have hf := gs_t hf hq
        refine lv_iload_n hx hb dX3_scrub_54 rfl (lv_at hl 2 rfl) ?_
        exact W.iret (v := z2) hx hb hr (fun t ht hW => u_ri (Option.some.inj hf) ht hW hP hK hD hS) hS.2.2 dX3_scrub_55
      · have hf := gs_f hf hq
        refine lv_iload_n hx hb dX3_scrub_22 rfl (lv_at hl 2 rfl) ?_
        refine lv_aload_n hx hb dX3_scrub_23 rfl (lv_at hl 0 rfl) ?_
        refine lv_aload_n hx hb dX3_scrub_24 rfl (lv_at hl 0 rfl) ?_
        refine va_get (D := (dC, dI)) (ci := 3) (v := .int (σ 10 0)) (C := RX3) (T := TX3) (N := 11) hx hb hts inG_X3 hown hK hP 0 rfl rfl 10 (by decide) (hts _ mg_375) (fun _ h9 => h9) rfl dX3_scrub_25 ?_
        obtain ⟨r1, σ2, hc, hf⟩ := gs_ob_e hf
        have hF := u_free hD hS hA
        refine u_calli (va_runV (As := [.int (σ 10 0)]) (rest := [.int z2]) ⟨hx, hb, hml, hown, hts⟩ (ct_X3_mend l dC dI h k T σ H.size (σ 10 0) _ hc) (cwV 1 hts (gd_V mg_413 mg_414 mg_21 mg_36 mg_415) rfl rfl rfl (by decide +kernel) ⟨Nat.le_of_ble_eq_true rfl, Nat.le_of_ble_eq_true rfl⟩) (u_preV zB_g hK hP hD hS hF hZ (va_recv hK hP (ci := 3) (q0 := 0) rfl rfl)) rfl rfl hl.1 rfl (lv_room (Nat.le_of_ble_eq_true rfl)) dX3_scrub_28 ⟨Nat.le_refl _, Nat.le_refl _⟩) hS hF (fun H locs hP hD hS => ?_)
        refine lv_iadd hx hb dX3_scrub_31 ?_
        refine lv_istore_n (lv' := [(2, .int (z2 + r1)), (0, .ref (h 0)), (1, .int z1), (3, .int z3)]) hx hb dX3_scrub_32 rfl hl (by decide) rfl (fun ls hl => ?_)
        refine lv_aload_n hx hb dX3_scrub_33 rfl (lv_at hl 1 rfl) ?_
        refine lv_aload_n hx hb dX3_scrub_34 rfl (lv_at hl 1 rfl) ?_
        refine va_get (D := (dC, dI)) (ci := 3) (v := .int (σ2 10 0)) (C := RX3) (T := TX3) (N := 11) hx hb hts inG_X3 hown hK hP 0 rfl rfl 10 (by decide) (hts _ mg_375) (fun _ h9 => h9) rfl dX3_scrub_35 ?_
        refine lv_iconst (v := 1) hx hb dX3_scrub_38 (by decide) ?_
        refine lv_iadd hx hb dX3_scrub_39 ?_
        refine lv_aload_n hx hb dX3_scrub_40 rfl (lv_at hl 1 rfl) ?_
        refine va_get (D := (dC, dI)) (ci := 3) (v := .int (σ2 0 0)) (C := RX3) (T := TX3) (N := 11) hx hb hts inG_X3 hown hK hP 0 rfl rfl 0 (by decide) (hts _ mg_365) (fun _ h9 => h9) rfl dX3_scrub_41 ?_
        obtain ⟨hne, hf⟩ := gs_dv_e hf
        refine lv_irem hx hb dX3_scrub_44 hne ?_
        refine va_put (D := (dC, dI)) (ci := 3) (v := .int (((σ2 10 0) + 1) - ((σ2 10 0) + 1) / (σ2 0 0) * (σ2 0 0))) (ty := .int) (C := RX3) (T := TX3) (N := 11) hx hb hts inG_X3 tyX3 tyX3_ok nmX3 hown hK hP hD hS 0 rfl rfl 10 (by decide) (hts _ mg_375) (fun _ h9 => h9) rfl (by decide +kernel) rfl rfl (Nat.le_of_ble_eq_true rfl) dX3_scrub_45 (fun H locs hP hD hS => ?_)
        obtain ⟨σ3, es, hf⟩ := gs_lt_e hf
        have hP : va_P (dC, dI) vwCl (wB h k T σ3) H := by rw [es]; exact hP
        have hD : va_D A (wB h k T σ3) := by rw [es]; exact hD
        clear es
        refine lv_iinc (v := z3 + 1) (lv' := [(3, .int (z3 + 1)), (2, .int (z2 + r1)), (0, .ref (h 0)), (1, .int z1)]) hx hb dX3_scrub_48 hl (k := 3) rfl rfl (by decide) rfl (fun ls hl => ?_)
        refine lv_goto (tgt := 17) hx hb dX3_scrub_51 (by decide) ?_
        exact ih z1 (z2 + r1) (z3 + 1) σ3 _ _ _ hf hP hD hS (lv_sub hl [2, 3, 1, 0] rfl)
  have hl := lv_entry ([.ref (h 0), .int x1]) (n := 4) (Nat.le_of_ble_eq_true rfl)
  rw [lg_entry_eq]
  generalize (lg_sl ([.ref (h 0), .int x1]) ++ List.replicate (4 - (lg_sl ([.ref (h 0), .int x1])).length) Slot.unset).toArray = ls at hl ⊢
  have hl : lv_has ls 4 [(0, .ref (h 0)), (1, .int x1)] := hl
  rw [fn_X3_scrub] at hf
  refine lv_iload_n hx hb dX3_scrub_0 rfl (lv_at hl 1 rfl) ?_
  refine lv_iconst (v := 1) hx hb dX3_scrub_1 (by decide) ?_
  refine lv_icmp_lt (tgt := 11) hx hb dX3_scrub_2 (by decide) (fun hq => ?_) (fun hq => ?_)
  · have hf := gs_t hf hq
    refine lv_iconst (v := (-1)) hx hb dX3_scrub_11 (by decide) ?_
    exact W.iret (v := (-1)) hx hb hr (fun t ht hW => u_ri (Option.some.inj hf) ht hW hP hK hD hS) hS.2.2 dX3_scrub_12
  · have hf := gs_f hf hq
    refine lv_iload_n hx hb dX3_scrub_5 rfl (lv_at hl 1 rfl) ?_
    refine lv_bipush (v := 21) hx hb dX3_scrub_6 (by decide) ?_
    refine lv_icmp_le (tgt := 13) hx hb dX3_scrub_8 (by decide) (fun hq => ?_) (fun hq => ?_)
    · have hf := gs_t hf hq
      refine lv_iconst (v := 0) hx hb dX3_scrub_13 (by decide) ?_
      refine lv_istore_n (lv' := [(2, .int 0), (0, .ref (h 0)), (1, .int x1)]) hx hb dX3_scrub_14 rfl hl (by decide) rfl (fun ls hl => ?_)
      refine lv_iconst (v := 0) hx hb dX3_scrub_15 (by decide) ?_
      refine lv_istore_n (lv' := [(3, .int 0), (2, .int 0), (0, .ref (h 0)), (1, .int x1)]) hx hb dX3_scrub_16 rfl hl (by decide) rfl (fun ls hl => ?_)
      exact L17 gs_fu x1 0 0 σ _ _ _ hf hP hD hS (lv_sub hl [2, 3, 1, 0] rfl)
    · have hf := gs_f hf hq
      refine lv_iconst (v := (-1)) hx hb dX3_scrub_11 (by decide) ?_
      exact W.iret (v := (-1)) hx hb hr (fun t ht hW => u_ri (Option.some.inj hf) ht hW hP hK hD hS) hS.2.2 dX3_scrub_12
set_option maxHeartbeats 4000000 in
set_option maxRecDepth 100000 in
theorem ct_X3_length (l : Launch) (dC : Nat → ClassId) (dI : Nat → Nat → Nat) (h : Nat → Nat) (k : Nat → ClassId) (T : Nat) (σ : gS) (sz : Nat) (x1 : Int32) (y : Int32 × gS) (hf : fn_X3_length T x1 σ = some y) : Met l yX3_length wsX3_length ({ frames := 0, cells := 0, slots := 0, locals := 0 }) (va_Pc [.ref (h 0), .int x1] (uPre (dC, dI) vwCl (tB k) (wB h k T) zB σ sz)) (va_Qi (fun r u => (r, u) = y) (uAt (dC, dI) vwCl (tB k) (wB h k T) (va_A (wB h k T σ) sz)) (va_A (wB h k T σ) sz)) 0 0 (va_A (wB h k T σ) sz) := by
  refine Met.ofW (cc := cX3_length) (maxL := 4) (ret := (some .int)) (by decide) rfl ?_
  intro p e s m args below meth c s₁ B hml hv
  obtain ⟨rfl, hsz, hP, hK, hD0, hZ⟩ := hv
  have hx := B.exec
  have hb := B.bytes
  have hr := B.returns
  have hts : ∀ w ∈ gG, w.before _ s = true := fun w h => atoms_spec (ws := wsX3_length) B.pre w (List.mem_cons_of_mem _ h)
  have hown : s.vm.findClass RX3 = some m.cls := findClass_of_methodNamed B.named
  have hlocks := B.notSynchronized
  subst hsz
  have hD := hD0.self (sz := s.heap.size)
  generalize hAe : va_A (wB h k T σ) s.heap.size = A at hD hZ ⊢
  have hA : ∀ q : Nat, s.heap.size ≤ q → A q := fun q h => by rw [← hAe]; exact Or.inr h
  have hS : va_S A s.heap s.heap [] := va_S.rf
  have L4 : ∀ (n : Nat), ∀ (z1 : Int32) (z2 : Int32) (z3 : Int32) (σ : gS) (H : Heap) (locs : List Loc) (ls : Array Slot), fn_X3_length_L4 T n z1 z2 z3 σ = some y → va_P (dC, dI) vwCl (wB h k T σ) H → va_D A (wB h k T σ) → va_S A s.heap H locs → lv_has ls 4 [(0, .ref (h 0)), (1, .int z1), (2, .int z2), (3, .int z3)] → W p l e ({ frames := 0, cells := 0, slots := 0, locals := 0 }) s m ([.ref (h 0), .int x1] : List Value).toArray below meth c H locs 0 0 (MQ below (va_Qi (fun r u => (r, u) = y) (uAt (dC, dI) vwCl (tB k) (wB h k T) A) A) ([.ref (h 0), .int x1] : List Value).toArray s 0 0 A) (F0 m 4 ls []) := by
    intro n
    induction n with
    | zero => intro z1 z2 z3 σ H locs ls hf; exact absurd hf (by rw [fn_X3_length_L4]; exact nofun)
    | succ n ih =>
      intro z1 z2 z3 σ H locs ls hf hP hD hS hl
      rw [fn_X3_length_L4] at hf
      refine lv_iload_n hx hb dX3_length_4 rfl (lv_at hl 3 rfl) ?_
      refine lv_aload_n hx hb dX3_length_5 rfl (lv_at hl 0 rfl) ?_
      refine va_get (D := (dC, dI)) (ci := 3) (v := .ref (h 9)) (C := RX3) (T := TX3) (N := 11) hx hb hts inG_X3 hown hK hP 0 rfl rfl 9 (by decide) (hts _ mg_374) (fun _ h9 => h9) rfl dX3_length_6 ?_
      refine lv_iload_n hx hb dX3_length_9 rfl (lv_at hl 1 rfl) ?_
      obtain ⟨hin, hf⟩ := gs_gd_e hf
      refine va_iald hx hb hK hP 9 8 rfl rfl hin dX3_length_10 ?_
      refine lv_icmp_ge (tgt := 33) hx hb dX3_length_11 (by decide) (fun hq => ?_) (fun hq => ?_)
      · have hf := gs_t hf hq
        refine lv_iload_n hx hb dX3_length_33 rfl (lv_at hl 2 rfl) ?_
        exact W.iret (v := z2) hx hb hr (fun t ht hW => u_ri (Option.some.inj hf) ht hW hP hK hD hS) hS.2.2 dX3_length_34
      · have hf := gs_f hf hq
        refine lv_iload_n hx hb dX3_length_14 rfl (lv_at hl 2 rfl) ?_
        refine lv_aload_n hx hb dX3_length_15 rfl (lv_at hl 0 rfl) ?_
        refine va_get (D := (dC, dI)) (ci := 3) (v := .ref (h 8)) (C := RX3) (T := TX3) (N := 11) hx hb hts inG_X3 hown hK hP 0 rfl rfl 8 (by decide) (hts _ mg_373) (fun _ h9 => h9) rfl dX3_length_16 ?_
        refine lv_iconst (v := 3) hx hb dX3_length_19 (by decide) ?_
        refine lv_iload_n hx hb dX3_length_20 rfl (lv_at hl 1 rfl) ?_
        refine lv_imul hx hb dX3_length_21 ?_
        refine lv_iload_n hx hb dX3_length_22 rfl (lv_at hl 3 rfl) ?_
        refine lv_iadd hx hb dX3_length_23 ?_
        obtain ⟨hin, hf⟩ := gs_gd_e hf
        refine va_iald hx hb hK hP 8 7 rfl rfl hin dX3_length_24 ?_
        refine lv_iadd hx hb dX3_length_25 ?_
        refine lv_istore_n (lv' := [(2, .int (z2 + (σ 8 ((3 * z1) + z3).toNatClampNeg))), (0, .ref (h 0)), (1, .int z1), (3, .int z3)]) hx hb dX3_length_26 rfl hl (by decide) rfl (fun ls hl => ?_)
        refine lv_iinc (v := z3 + 1) (lv' := [(3, .int (z3 + 1)), (2, .int (z2 + (σ 8 ((3 * z1) + z3).toNatClampNeg))), (0, .ref (h 0)), (1, .int z1)]) hx hb dX3_length_27 hl (k := 3) rfl rfl (by decide) rfl (fun ls hl => ?_)
        refine lv_goto (tgt := 4) hx hb dX3_length_30 (by decide) ?_
        exact ih z1 (z2 + (σ 8 ((3 * z1) + z3).toNatClampNeg)) (z3 + 1) σ _ _ _ hf hP hD hS (lv_sub hl [2, 3, 1, 0] rfl)
  have hl := lv_entry ([.ref (h 0), .int x1]) (n := 4) (Nat.le_of_ble_eq_true rfl)
  rw [lg_entry_eq]
  generalize (lg_sl ([.ref (h 0), .int x1]) ++ List.replicate (4 - (lg_sl ([.ref (h 0), .int x1])).length) Slot.unset).toArray = ls at hl ⊢
  have hl : lv_has ls 4 [(0, .ref (h 0)), (1, .int x1)] := hl
  rw [fn_X3_length] at hf
  refine lv_iconst (v := 0) hx hb dX3_length_0 (by decide) ?_
  refine lv_istore_n (lv' := [(2, .int 0), (0, .ref (h 0)), (1, .int x1)]) hx hb dX3_length_1 rfl hl (by decide) rfl (fun ls hl => ?_)
  refine lv_iconst (v := 0) hx hb dX3_length_2 (by decide) ?_
  refine lv_istore_n (lv' := [(3, .int 0), (2, .int 0), (0, .ref (h 0)), (1, .int x1)]) hx hb dX3_length_3 rfl hl (by decide) rfl (fun ls hl => ?_)
  exact L4 gs_fu x1 0 0 σ _ _ _ hf hP hD hS (lv_sub hl [2, 3, 1, 0] rfl)
