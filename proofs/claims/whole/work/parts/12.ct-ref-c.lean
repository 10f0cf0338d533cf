set_option maxHeartbeats 4000000 in
set_option maxRecDepth 100000 in
theorem ct_X3_home (l : Launch) (dC : Nat → ClassId) (dI : Nat → Nat → Nat) (h : Nat → Nat) (k : Nat → ClassId) (T : Nat) (σ : gS) (sz : Nat) (x1 : Int32) (y : Int32 × gS) (hf : fn_X3_home T x1 σ = some y) : Met l yX3_home wsX3_home ({ frames := 0, cells := 0, slots := 0, locals := 0 }) (va_Pc [.ref (h 0), .int x1] (uPre (dC, dI) vwCl (tB k) (wB h k T) zB σ sz)) (va_Qi (fun r u => (r, u) = y) (uAt (dC, dI) vwCl (tB k) (wB h k T) (va_A (wB h k T σ) sz)) (va_A (wB h k T σ) sz)) 0 0 (va_A (wB h k T σ) sz) := by
  refine Met.ofW (cc := cX3_home) (maxL := 4) (ret := (some .int)) (by decide) rfl ?_
  intro p e s m args below meth c s₁ B hml hv
  obtain ⟨rfl, hsz, hP, hK, hD0, hZ⟩ := hv
  have hx := B.exec
  have hb := B.bytes
  have hr := B.returns
  have hts : ∀ w ∈ gG, w.before _ s = true := fun w h => atoms_spec (ws := wsX3_home) B.pre w (List.mem_cons_of_mem _ h)
  have hown : s.vm.findClass RX3 = some m.cls := findClass_of_methodNamed B.named
  have hlocks := B.notSynchronized
  subst hsz
  have hD := hD0.self (sz := s.heap.size)
  generalize hAe : va_A (wB h k T σ) s.heap.size = A at hD hZ ⊢
  have hA : ∀ q : Nat, s.heap.size ≤ q → A q := fun q h => by rw [← hAe]; exact Or.inr h
  have hS : va_S A s.heap s.heap [] := va_S.rf
  have hl := lv_entry ([.ref (h 0), .int x1]) (n := 4) (Nat.le_of_ble_eq_true rfl)
  rw [lg_entry_eq]
  generalize (lg_sl ([.ref (h 0), .int x1]) ++ List.replicate (4 - (lg_sl ([.ref (h 0), .int x1])).length) Slot.unset).toArray = ls at hl ⊢
  have hl : lv_has ls 4 [(0, .ref (h 0)), (1, .int x1)] := hl
  rw [fn_X3_home] at hf
  refine lv_iload_n hx hb dX3_home_0 rfl (lv_at hl 1 rfl) ?_
  refine lv_iconst (v := 4) hx hb dX3_home_1 (by decide) ?_
  refine lv_irem hx hb dX3_home_2 (by decide) ?_
  refine lv_istore_n (lv' := [(2, .int (x1 - x1 / 4 * 4)), (0, .ref (h 0)), (1, .int x1)]) hx hb dX3_home_3 rfl hl (by decide) rfl (fun ls hl => ?_)
  refine lv_iload_n hx hb dX3_home_4 rfl (lv_at hl 0 rfl) ?_
  refine lv_if_ne (tgt := 12) hx hb dX3_home_5 (by decide) (fun hq => ?_) (fun hq => ?_)
  · have hf := gs_f hf hq
    refine lv_iload_n hx hb dX3_home_12 rfl (lv_at hl 0 rfl) ?_
    refine lv_iconst (v := 1) hx hb dX3_home_13 (by decide) ?_
    refine lv_icmp_ne (tgt := 21) hx hb dX3_home_14 (by decide) (fun hq => ?_) (fun hq => ?_)
    · have hf := gs_f hf hq
      refine lv_iload_n hx hb dX3_home_21 rfl (lv_at hl 0 rfl) ?_
      refine lv_iconst (v := 2) hx hb dX3_home_22 (by decide) ?_
      refine lv_icmp_ne (tgt := 30) hx hb dX3_home_23 (by decide) (fun hq => ?_) (fun hq => ?_)
      · have hf := gs_f hf hq
        refine lv_bipush (v := 6) hx hb dX3_home_30 (by decide) ?_
        refine lv_istore_n (lv' := [(3, .int 6), (2, .int (x1 - x1 / 4 * 4)), (0, .ref (h 0)), (1, .int x1)]) hx hb dX3_home_32 rfl hl (by decide) rfl (fun ls hl => ?_)
        refine lv_iload_n hx hb dX3_home_33 rfl (lv_at hl 3 rfl) ?_
        refine lv_iconst (v := 4) hx hb dX3_home_34 (by decide) ?_
        refine lv_idiv hx hb dX3_home_35 (by decide) ?_
        refine lv_bipush (v := 7) hx hb dX3_home_36 (by decide) ?_
        refine lv_irem hx hb dX3_home_38 (by decide) ?_
        refine lv_iload_n hx hb dX3_home_39 rfl (lv_at hl 0 rfl) ?_
        refine lv_iadd hx hb dX3_home_40 ?_
        refine lv_bipush (v := 7) hx hb dX3_home_41 (by decide) ?_
        refine lv_irem hx hb dX3_home_43 (by decide) ?_
        exact W.iret (v := (((x1 / 4) - (x1 / 4) / 7 * 7) + 6) - (((x1 / 4) - (x1 / 4) / 7 * 7) + 6) / 7 * 7) hx hb hr (fun t ht hW => u_ri (Option.some.inj hf) ht hW hP hK hD hS) hS.2.2 dX3_home_44
      · have hf := gs_t hf hq
        refine lv_iconst (v := 5) hx hb dX3_home_26 (by decide) ?_
        refine lv_goto (tgt := 32) hx hb dX3_home_27 (by decide) ?_
        refine lv_istore_n (lv' := [(3, .int 5), (2, .int (x1 - x1 / 4 * 4)), (0, .ref (h 0)), (1, .int x1)]) hx hb dX3_home_32 rfl hl (by decide) rfl (fun ls hl => ?_)
        refine lv_iload_n hx hb dX3_home_33 rfl (lv_at hl 3 rfl) ?_
        refine lv_iconst (v := 4) hx hb dX3_home_34 (by decide) ?_
        refine lv_idiv hx hb dX3_home_35 (by decide) ?_
        refine lv_bipush (v := 7) hx hb dX3_home_36 (by decide) ?_
        refine lv_irem hx hb dX3_home_38 (by decide) ?_
        refine lv_iload_n hx hb dX3_home_39 rfl (lv_at hl 0 rfl) ?_
        refine lv_iadd hx hb dX3_home_40 ?_
        refine lv_bipush (v := 7) hx hb dX3_home_41 (by decide) ?_
        refine lv_irem hx hb dX3_home_43 (by decide) ?_
        exact W.iret (v := (((x1 / 4) - (x1 / 4) / 7 * 7) + 5) - (((x1 / 4) - (x1 / 4) / 7 * 7) + 5) / 7 * 7) hx hb hr (fun t ht hW => u_ri (Option.some.inj hf) ht hW hP hK hD hS) hS.2.2 dX3_home_44
    · have hf := gs_t hf hq
      refine lv_iconst (v := 4) hx hb dX3_home_17 (by decide) ?_
      refine lv_goto (tgt := 32) hx hb dX3_home_18 (by decide) ?_
      refine lv_istore_n (lv' := [(3, .int 4), (2, .int (x1 - x1 / 4 * 4)), (0, .ref (h 0)), (1, .int x1)]) hx hb dX3_home_32 rfl hl (by decide) rfl (fun ls hl => ?_)
      refine lv_iload_n hx hb dX3_home_33 rfl (lv_at hl 3 rfl) ?_
      refine lv_iconst (v := 4) hx hb dX3_home_34 (by decide) ?_
      refine lv_idiv hx hb dX3_home_35 (by decide) ?_
      refine lv_bipush (v := 7) hx hb dX3_home_36 (by decide) ?_
      refine lv_irem hx hb dX3_home_38 (by decide) ?_
      refine lv_iload_n hx hb dX3_home_39 rfl (lv_at hl 0 rfl) ?_
      refine lv_iadd hx hb dX3_home_40 ?_
      refine lv_bipush (v := 7) hx hb dX3_home_41 (by decide) ?_
      refine lv_irem hx hb dX3_home_43 (by decide) ?_
      exact W.iret (v := (((x1 / 4) - (x1 / 4) / 7 * 7) + 4) - (((x1 / 4) - (x1 / 4) / 7 * 7) + 4) / 7 * 7) hx hb hr (fun t ht hW => u_ri (Option.some.inj hf) ht hW hP hK hD hS) hS.2.2 dX3_home_44
  · have hf := gs_t hf hq
    refine lv_iconst (v := 2) hx hb dX3_home_8 (by decide) ?_
    refine lv_goto (tgt := 32) hx hb dX3_home_9 (by decide) ?_
    refine lv_istore_n (lv' := [(3, .int 2), (2, .int (x1 - x1 / 4 * 4)), (0, .ref (h 0)), (1, .int x1)]) hx hb dX3_home_32 rfl hl (by decide) rfl (fun ls hl => ?_)
    refine lv_iload_n hx hb dX3_home_33 rfl (lv_at hl 3 rfl) ?_
    refine lv_iconst (v := 4) hx hb dX3_home_34 (by decide) ?_
    refine lv_idiv hx hb dX3_home_35 (by decide) ?_
    refine lv_bipush (v := 7) hx hb dX3_home_36 (by decide) ?_
    refine lv_irem hx hb dX3_home_38 (by decide) ?_
    refine lv_iload_n hx hb dX3_home_39 rfl (lv_at hl 0 rfl) ?_
    refine lv_iadd hx hb dX3_home_40 ?_
    refine lv_bipush (v := 7) hx hb dX3_home_41 (by decide) ?_
    refine lv_irem hx hb dX3_home_43 (by decide) ?_
    exact W.iret (v := (((x1 / 4) - (x1 / 4) / 7 * 7) + 2) - (((x1 / 4) - (x1 / 4) / 7 * 7) + 2) / 7 * 7) hx hb hr (fun t ht hW => u_ri (Option.some.inj hf) ht hW hP hK hD hS) hS.2.2 dX3_home_44
set_option maxHeartbeats 4000000 in
set_option maxRecDepth 100000 in
theorem ct_X3_on (l : Launch) (dC : Nat → ClassId) (dI : Nat → Nat → Nat) (h : Nat → Nat) (k : Nat → ClassId) (T : Nat) (σ : gS) (sz : Nat) (x1 : Int32) (y : Int32 × gS) (hf : fn_X3_on T x1 σ = some y) : Met l yX3_on wsX3_on ({ frames := 1, cells := 0, slots := 0, locals := 23 }) (va_Pc [.ref (h 0), .int x1] (uPre (dC, dI) vwCl (tB k) (wB h k T) zB σ sz)) (va_Qi (fun r u => (r, u) = y) (uAt (dC, dI) vwCl (tB k) (wB h k T) (va_A (wB h k T σ) sz)) (va_A (wB h k T σ) sz)) 0 0 (va_A (wB h k T σ) sz) := by
  refine Met.ofW (cc := cX3_on) (maxL := 2) (ret := (some .int)) (by decide) rfl ?_
  intro p e s m args below meth c s₁ B hml hv
  obtain ⟨rfl, hsz, hP, hK, hD0, hZ⟩ := hv
  have hx := B.exec
  have hb := B.bytes
  have hr := B.returns
  have hts : ∀ w ∈ gG, w.before _ s = true := fun w h => atoms_spec (ws := wsX3_on) B.pre w (List.mem_cons_of_mem _ h)
  have hown : s.vm.findClass RX3 = some m.cls := findClass_of_methodNamed B.named
  have hlocks := B.notSynchronized
  subst hsz
  have hD := hD0.self (sz := s.heap.size)
  generalize hAe : va_A (wB h k T σ) s.heap.size = A at hD hZ ⊢
  have hA : ∀ q : Nat, s.heap.size ≤ q → A q := fun q h => by rw [← hAe]; exact Or.inr h
  have hS : va_S A s.heap s.heap [] := va_S.rf
  have hl := lv_entry ([.ref (h 0), .int x1]) (n := 2) (Nat.le_of_ble_eq_true rfl)
  rw [lg_entry_eq]
  generalize (lg_sl ([.ref (h 0), .int x1]) ++ List.replicate (2 - (lg_sl ([.ref (h 0), .int x1])).length) Slot.unset).toArray = ls at hl ⊢
  have hl : lv_has ls 2 [(0, .ref (h 0)), (1, .int x1)] := hl
  rw [fn_X3_on] at hf
  refine lv_aload_n hx hb dX3_on_0 rfl (lv_at hl 0 rfl) ?_
  refine va_get (D := (dC, dI)) (ci := 3) (v := .ref (h 3)) (C := RX3) (T := TX3) (N := 11) hx hb hts inG_X3 hown hK hP 0 rfl rfl 3 (by decide) (hts _ mg_368) (fun _ h9 => h9) rfl dX3_on_1 ?_
  refine lv_iload_n hx hb dX3_on_4 rfl (lv_at hl 1 rfl) ?_
  obtain ⟨hin, hf⟩ := gs_gd_e hf
  refine va_zald hx hb hK hP 3 2 rfl rfl hin dX3_on_5 ?_
  refine lv_if_eq (tgt := 13) hx hb dX3_on_6 (by decide) (fun hq => ?_) (fun hq => ?_)
  · have hf := gs_t hf hq
    refine lv_aload_n hx hb dX3_on_13 rfl (lv_at hl 0 rfl) ?_
    refine va_get (D := (dC, dI)) (ci := 3) (v := .ref (h 4)) (C := RX3) (T := TX3) (N := 11) hx hb hts inG_X3 hown hK hP 0 rfl rfl 4 (by decide) (hts _ mg_369) (fun _ h9 => h9) rfl dX3_on_14 ?_
    refine lv_iload_n hx hb dX3_on_17 rfl (lv_at hl 1 rfl) ?_
    obtain ⟨hin, hf⟩ := gs_gd_e hf
    refine va_zald hx hb hK hP 4 3 rfl rfl hin dX3_on_18 ?_
    refine lv_if_eq (tgt := 30) hx hb dX3_on_19 (by decide) (fun hq => ?_) (fun hq => ?_)
    · have hf := gs_t hf hq
      refine lv_aload_n hx hb dX3_on_30 rfl (lv_at hl 0 rfl) ?_
      refine lv_iload_n hx hb dX3_on_31 rfl (lv_at hl 1 rfl) ?_
      obtain ⟨r1, σ2, hc, hf⟩ := gs_ob_e hf
      have hF := u_free hD hS hA
      refine u_calli (va_runV (As := [.int x1]) (rest := []) ⟨hx, hb, hml, hown, hts⟩ (ct_X3_home l dC dI h k T σ s.heap.size x1 _ hc) (cwV 1 hts (gd_V mg_435 mg_436 mg_25 mg_36 mg_437) rfl rfl rfl (by decide +kernel) ⟨Nat.le_of_ble_eq_true rfl, Nat.le_of_ble_eq_true rfl⟩) (u_preV zB_g hK hP hD hS hF hZ (va_recv hK hP (ci := 3) (q0 := 0) rfl rfl)) rfl rfl hl.1 rfl (lv_room (Nat.le_of_ble_eq_true rfl)) dX3_on_32 ⟨Nat.le_refl _, Nat.le_refl _⟩) hS hF (fun H locs hP hD hS => ?_)
      exact W.iret (v := r1) hx hb hr (fun t ht hW => u_ri (Option.some.inj hf) ht hW hP hK hD hS) hS.2.2 dX3_on_35
    · have hf := gs_f hf hq
      refine lv_aload_n hx hb dX3_on_22 rfl (lv_at hl 0 rfl) ?_
      refine lv_iload_n hx hb dX3_on_23 rfl (lv_at hl 1 rfl) ?_
      obtain ⟨r3, σ4, hc, hf⟩ := gs_ob_e hf
      have hF := u_free hD hS hA
      refine u_calli (va_runV (As := [.int x1]) (rest := []) ⟨hx, hb, hml, hown, hts⟩ (ct_X3_spare l dC dI h k T σ s.heap.size x1 _ hc) (cwV 1 hts (gd_V mg_432 mg_433 mg_24 mg_36 mg_434) rfl rfl rfl (by decide +kernel) ⟨Nat.le_of_ble_eq_true rfl, Nat.le_of_ble_eq_true rfl⟩) (u_preV zB_g hK hP hD hS hF hZ (va_recv hK hP (ci := 3) (q0 := 0) rfl rfl)) rfl rfl hl.1 rfl (lv_room (Nat.le_of_ble_eq_true rfl)) dX3_on_24 ⟨Nat.le_refl _, Nat.le_refl _⟩) hS hF (fun H locs hP hD hS => ?_)
      refine lv_goto (tgt := 35) hx hb dX3_on_27 (by decide) ?_
      exact W.iret (v := r3) hx hb hr (fun t ht hW => u_ri (Option.some.inj hf) ht hW hP hK hD hS) hS.2.2 dX3_on_35
  · have hf := gs_f hf hq
    refine lv_iconst (v := (-1)) hx hb dX3_on_9 (by decide) ?_
    refine lv_goto (tgt := 35) hx hb dX3_on_10 (by decide) ?_
    exact W.iret (v := (-1)) hx hb hr (fun t ht hW => u_ri (Option.some.inj hf) ht hW hP hK hD hS) hS.2.2 dX3_on_35
set_option maxHeartbeats 4000000 in
set_option maxRecDepth 100000 in
theorem ct_X3_fail (l : Launch) (dC : Nat → ClassId) (dI : Nat → Nat → Nat) (h : Nat → Nat) (k : Nat → ClassId) (T : Nat) (σ : gS) (sz : Nat) (x1 : Int32) (y : Int32 × gS) (hf : fn_X3_fail T x1 σ = some y) : Met l yX3_fail wsX3_fail ({ frames := 2, cells := 0, slots := 0, locals := 44 }) (va_Pc [.ref (h 0), .int x1] (uPre (dC, dI) vwCl (tB k) (wB h k T) zB σ sz)) (va_Qi (fun r u => (r, u) = y) (uAt (dC, dI) vwCl (tB k) (wB h k T) (va_A (wB h k T σ) sz)) (va_A (wB h k T σ) sz)) 0 0 (va_A (wB h k T σ) sz) := by
  refine Met.ofW (cc := cX3_fail) (maxL := 4) (ret := (some .int)) (by decide) rfl ?_
  intro p e s m args below meth c s₁ B hml hv
  obtain ⟨rfl, hsz, hP, hK, hD0, hZ⟩ := hv
  have hx := B.exec
  have hb := B.bytes
  have hr := B.returns
  have hts : ∀ w ∈ gG, w.before _ s = true := fun w h => atoms_spec (ws := wsX3_fail) B.pre w (List.mem_cons_of_mem _ h)
  have hown : s.vm.findClass RX3 = some m.cls := findClass_of_methodNamed B.named
  have hlocks := B.notSynchronized
  subst hsz
  have hD := hD0.self (sz := s.heap.size)
  generalize hAe : va_A (wB h k T σ) s.heap.size = A at hD hZ ⊢
  have hA : ∀ q : Nat, s.heap.size ≤ q → A q := fun q h => by rw [← hAe]; exact Or.inr h
  have hS : va_S A s.heap s.heap [] := va_S.rf
  have L31 : ∀ (n : Nat), ∀ (z1 : Int32) (z2 : Int32) (z3 : Int32) (σ : gS) (H : Heap) (locs : List Loc) (ls : Array Slot), fn_X3_fail_L31 T n z1 z2 z3 σ = some y → va_P (dC, dI) vwCl (wB h k T σ) H → va_D A (wB h k T σ) → va_S A s.heap H locs → lv_has ls 4 [(0, .ref (h 0)), (1, .int z1), (2, .int z2), (3, .int z3)] → W p l e ({ frames := 2, cells := 0, slots := 0, locals := 44 }) s m ([.ref (h 0), .int x1] : List Value).toArray below meth c H locs 0 0 (MQ below (va_Qi (fun r u => (r, u) = y) (uAt (dC, dI) vwCl (tB k) (wB h k T) A) A) ([.ref (h 0), .int x1] : List Value).toArray s 0 0 A) (F0 m 31 ls []) := by
    intro n
    induction n with
    | zero => intro z1 z2 z3 σ H locs ls hf; exact absurd hf (by rw [fn_X3_fail_L31]; exact nofun)
    | succ n ih =>
      intro z1 z2 z3 σ H locs ls hf hP hD hS hl
      rw [fn_X3_fail_L31] at hf
      refine lv_iload_n hx hb dX3_fail_31 rfl (lv_at hl 3 rfl) ?_
      refine lv_iconst (v := 4) hx hb dX3_fail_32 (by decide) ?_
      refine lv_aload_n hx hb dX3_fail_33 rfl (lv_at hl 0 rfl) ?_
      refine va_get (D := (dC, dI)) (ci := 3) (v := .int (σ 0 0)) (C := RX3) (T := TX3) (N := 11) hx hb hts inG_X3 hown hK hP 0 rfl rfl 0 (by decide) (hts _ mg_365) (fun _ h9 => h9) rfl dX3_fail_34 ?_
      refine lv_imul hx hb dX3_fail_37 ?_
      refine lv_icmp_ge (tgt := 73) hx hb dX3_fail_38 (by decide) (fun hq => ?_) (fun hq => ?_)
      · have hf := gs_t hf hq
        refine lv_iload_n hx hb dX3_fail_73 rfl (lv_at hl 2 rfl) ?_
        exact W.iret (v := z2) hx hb hr (fun t ht hW => u_ri (Option.some.inj hf) ht hW hP hK hD hS) hS.2.2 dX3_fail_74
      · have hf := gs_f hf hq
        refine lv_aload_n hx hb dX3_fail_41 rfl (lv_at hl 0 rfl) ?_
        refine lv_iload_n hx hb dX3_fail_42 rfl (lv_at hl 3 rfl) ?_
        obtain ⟨r4, σ5, hc, hf⟩ := gs_ob_e hf
        have hF := u_free hD hS hA
        refine u_calli (va_runV (As := [.int z3]) (rest := []) ⟨hx, hb, hml, hown, hts⟩ (ct_X3_on l dC dI h k T σ H.size z3 _ hc) (cwV 1 hts (gd_V mg_429 mg_430 mg_23 mg_36 mg_431) rfl rfl rfl (by decide +kernel) ⟨Nat.le_of_ble_eq_true rfl, Nat.le_of_ble_eq_true rfl⟩) (u_preV zB_g hK hP hD hS hF hZ (va_recv hK hP (ci := 3) (q0 := 0) rfl rfl)) rfl rfl hl.1 rfl (lv_room (Nat.le_of_ble_eq_true rfl)) dX3_fail_43 ⟨Nat.le_refl _, Nat.le_refl _⟩) hS hF (fun H locs hP hD hS => ?_)
        refine lv_iload_n hx hb dX3_fail_46 rfl (lv_at hl 1 rfl) ?_
        refine lv_icmp_ne (tgt := 67) hx hb dX3_fail_47 (by decide) (fun hq => ?_) (fun hq => ?_)
        · have hf := gs_f hf hq
          refine lv_iinc (v := z3 + 1) (lv' := [(3, .int (z3 + 1)), (0, .ref (h 0)), (1, .int z1), (2, .int z2)]) hx hb dX3_fail_67 hl (k := 3) rfl rfl (by decide) rfl (fun ls hl => ?_)
          refine lv_goto (tgt := 31) hx hb dX3_fail_70 (by decide) ?_
          exact ih z1 z2 (z3 + 1) σ5 _ _ _ hf hP hD hS (lv_sub hl [1, 2, 3, 0] rfl)
        · have hf := gs_t hf hq
          refine lv_aload_n hx hb dX3_fail_50 rfl (lv_at hl 0 rfl) ?_
          refine va_get (D := (dC, dI)) (ci := 3) (v := .ref (h 3)) (C := RX3) (T := TX3) (N := 11) hx hb hts inG_X3 hown hK hP 0 rfl rfl 3 (by decide) (hts _ mg_368) (fun _ h9 => h9) rfl dX3_fail_51 ?_
          refine lv_iload_n hx hb dX3_fail_54 rfl (lv_at hl 3 rfl) ?_
          refine lv_iconst (v := 1) hx hb dX3_fail_55 (by decide) ?_
          obtain ⟨hin, hf⟩ := gs_gd_e hf
          refine va_zast hx hb hK hP hD hS 3 2 rfl rfl hin dX3_fail_56 (fun H locs hP hD hS => ?_)
          obtain ⟨σ6, es, hf⟩ := gs_lt_e hf
          have hP : va_P (dC, dI) vwCl (wB h k T σ6) H := by rw [es]; exact hP
          have hD : va_D A (wB h k T σ6) := by rw [es]; exact hD
          clear es
          refine lv_aload_n hx hb dX3_fail_57 rfl (lv_at hl 0 rfl) ?_
          refine va_get (D := (dC, dI)) (ci := 3) (v := .ref (h 4)) (C := RX3) (T := TX3) (N := 11) hx hb hts inG_X3 hown hK hP 0 rfl rfl 4 (by decide) (hts _ mg_369) (fun _ h9 => h9) rfl dX3_fail_58 ?_
          refine lv_iload_n hx hb dX3_fail_61 rfl (lv_at hl 3 rfl) ?_
          refine lv_iconst (v := 0) hx hb dX3_fail_62 (by decide) ?_
          obtain ⟨hin, hf⟩ := gs_gd_e hf
          refine va_zast hx hb hK hP hD hS 4 3 rfl rfl hin dX3_fail_63 (fun H locs hP hD hS => ?_)
          obtain ⟨σ7, es, hf⟩ := gs_lt_e hf
          have hP : va_P (dC, dI) vwCl (wB h k T σ7) H := by rw [es]; exact hP
          have hD : va_D A (wB h k T σ7) := by rw [es]; exact hD
          clear es
          refine lv_iinc (v := z2 + 1) (lv' := [(2, .int (z2 + 1)), (0, .ref (h 0)), (1, .int z1), (3, .int z3)]) hx hb dX3_fail_64 hl (k := 2) rfl rfl (by decide) rfl (fun ls hl => ?_)
          refine lv_iinc (v := z3 + 1) (lv' := [(3, .int (z3 + 1)), (2, .int (z2 + 1)), (0, .ref (h 0)), (1, .int z1)]) hx hb dX3_fail_67 hl (k := 3) rfl rfl (by decide) rfl (fun ls hl => ?_)
          refine lv_goto (tgt := 31) hx hb dX3_fail_70 (by decide) ?_
          exact ih z1 (z2 + 1) (z3 + 1) σ7 _ _ _ hf hP hD hS (lv_sub hl [2, 3, 1, 0] rfl)
  have hl := lv_entry ([.ref (h 0), .int x1]) (n := 4) (Nat.le_of_ble_eq_true rfl)
  rw [lg_entry_eq]
  generalize (lg_sl ([.ref (h 0), .int x1]) ++ List.replicate (4 - (lg_sl ([.ref (h 0), .int x1])).length) Slot.unset).toArray = ls at hl ⊢
  have hl : lv_has ls 4 [(0, .ref (h 0)), (1, .int x1)] := hl
  rw [fn_X3_fail] at hf
  refine lv_iload_n hx hb dX3_fail_0 rfl (lv_at hl 1 rfl) ?_
  refine lv_bipush (v := 7) hx hb dX3_fail_1 (by decide) ?_
  obtain ⟨r1, σ2, hc, hf⟩ := gs_ob_e hf
  have hF := u_free hD hS hA
  refine u_calli (va_runS (As := [.int x1, .int 7]) (rest := []) ⟨hx, hb, hml, hown, hts⟩ (ct_X3_in l dC dI h k T σ s.heap.size x1 7 _ hc) (va_cwS 2 hts (gd_S mg_380 mg_381 mg_36 mg_382) rfl rfl rfl (by decide +kernel) ⟨Nat.le_of_ble_eq_true rfl, Nat.le_of_ble_eq_true rfl⟩) (u_preS zB_g hK hP hD hS hF hZ) rfl rfl hl.1 rfl (lv_room (Nat.le_of_ble_eq_true rfl)) dX3_fail_3 ⟨Nat.le_refl _, Nat.le_refl _⟩) hS hF (fun H locs hP hD hS => ?_)
  refine lv_if_eq (tgt := 18) hx hb dX3_fail_6 (by decide) (fun hq => ?_) (fun hq => ?_)
  · have hf := gs_t hf hq
    refine lv_iconst (v := (-1)) hx hb dX3_fail_18 (by decide) ?_
    exact W.iret (v := (-1)) hx hb hr (fun t ht hW => u_ri (Option.some.inj hf) ht hW hP hK hD hS) hS.2.2 dX3_fail_19
  · have hf := gs_f hf hq
    refine lv_aload_n hx hb dX3_fail_9 rfl (lv_at hl 0 rfl) ?_
    refine va_get (D := (dC, dI)) (ci := 3) (v := .ref (h 5)) (C := RX3) (T := TX3) (N := 11) hx hb hts inG_X3 hown hK hP 0 rfl rfl 5 (by decide) (hts _ mg_370) (fun _ h9 => h9) rfl dX3_fail_10 ?_
    refine lv_iload_n hx hb dX3_fail_13 rfl (lv_at hl 1 rfl) ?_
    obtain ⟨hin, hf⟩ := gs_gd_e hf
    refine va_zald hx hb hK hP 5 4 rfl rfl hin dX3_fail_14 ?_
    refine lv_if_eq (tgt := 20) hx hb dX3_fail_15 (by decide) (fun hq => ?_) (fun hq => ?_)
    · have hf := gs_t hf hq
      refine lv_aload_n hx hb dX3_fail_20 rfl (lv_at hl 0 rfl) ?_
      refine va_get (D := (dC, dI)) (ci := 3) (v := .ref (h 5)) (C := RX3) (T := TX3) (N := 11) hx hb hts inG_X3 hown hK hP 0 rfl rfl 5 (by decide) (hts _ mg_370) (fun _ h9 => h9) rfl dX3_fail_21 ?_
      refine lv_iload_n hx hb dX3_fail_24 rfl (lv_at hl 1 rfl) ?_
      refine lv_iconst (v := 1) hx hb dX3_fail_25 (by decide) ?_
      obtain ⟨hin, hf⟩ := gs_gd_e hf
      refine va_zast hx hb hK hP hD hS 5 4 rfl rfl hin dX3_fail_26 (fun H locs hP hD hS => ?_)
      obtain ⟨σ3, es, hf⟩ := gs_lt_e hf
      have hP : va_P (dC, dI) vwCl (wB h k T σ3) H := by rw [es]; exact hP
      have hD : va_D A (wB h k T σ3) := by rw [es]; exact hD
      clear es
      refine lv_iconst (v := 0) hx hb dX3_fail_27 (by decide) ?_
      refine lv_istore_n (lv' := [(2, .int 0), (0, .ref (h 0)), (1, .int x1)]) hx hb dX3_fail_28 rfl hl (by decide) rfl (fun ls hl => ?_)
      refine lv_iconst (v := 0) hx hb dX3_fail_29 (by decide) ?_
      refine lv_istore_n (lv' := [(3, .int 0), (2, .int 0), (0, .ref (h 0)), (1, .int x1)]) hx hb dX3_fail_30 rfl hl (by decide) rfl (fun ls hl => ?_)
      exact L31 gs_fu x1 0 0 σ3 _ _ _ hf hP hD hS (lv_sub hl [2, 3, 1, 0] rfl)
    · have hf := gs_f hf hq
      refine lv_iconst (v := (-1)) hx hb dX3_fail_18 (by decide) ?_
      exact W.iret (v := (-1)) hx hb hr (fun t ht hW => u_ri (Option.some.inj hf) ht hW hP hK hD hS) hS.2.2 dX3_fail_19
set_option maxHeartbeats 4000000 in
set_option maxRecDepth 100000 in
theorem ct_X3_replace (l : Launch) (dC : Nat → ClassId) (dI : Nat → Nat → Nat) (h : Nat → Nat) (k : Nat → ClassId) (T : Nat) (σ : gS) (sz : Nat) (x1 : Int32) (y : Int32 × gS) (hf : fn_X3_replace T x1 σ = some y) : Met l yX3_replace wsX3_replace ({ frames := 1, cells := 0, slots := 0, locals := 21 }) (va_Pc [.ref (h 0), .int x1] (uPre (dC, dI) vwCl (tB k) (wB h k T) zB σ sz)) (va_Qi (fun r u => (r, u) = y) (uAt (dC, dI) vwCl (tB k) (wB h k T) (va_A (wB h k T σ) sz)) (va_A (wB h k T σ) sz)) 0 0 (va_A (wB h k T σ) sz) := by
  refine Met.ofW (cc := cX3_replace) (maxL := 2) (ret := (some .int)) (by decide) rfl ?_
  intro p e s m args below meth c s₁ B hml hv
  obtain ⟨rfl, hsz, hP, hK, hD0, hZ⟩ := hv
  have hx := B.exec
  have hb := B.bytes
  have hr := B.returns
  have hts : ∀ w ∈ gG, w.before _ s = true := fun w h => atoms_spec (ws := wsX3_replace) B.pre w (List.mem_cons_of_mem _ h)
  have hown : s.vm.findClass RX3 = some m.cls := findClass_of_methodNamed B.named
  have hlocks := B.notSynchronized
  subst hsz
  have hD := hD0.self (sz := s.heap.size)
  generalize hAe : va_A (wB h k T σ) s.heap.size = A at hD hZ ⊢
  have hA : ∀ q : Nat, s.heap.size ≤ q → A q := fun q h => by rw [← hAe]; exact Or.inr h
  have hS : va_S A s.heap s.heap [] := va_S.rf
  have hl := lv_entry ([.ref (h 0), .int x1]) (n := 2) (Nat.le_of_ble_eq_true rfl)
  rw [lg_entry_eq]
  generalize (lg_sl ([.ref (h 0), .int x1]) ++ List.replicate (2 - (lg_sl ([.ref (h 0), .int x1])).length) Slot.unset).toArray = ls at hl ⊢
  have hl : lv_has ls 2 [(0, .ref (h 0)), (1, .int x1)] := hl
  rw [fn_X3_replace] at hf
  refine lv_iload_n hx hb dX3_replace_0 rfl (lv_at hl 1 rfl) ?_
  refine lv_bipush (v := 7) hx hb dX3_replace_1 (by decide) ?_
  obtain ⟨r1, σ2, hc, hf⟩ := gs_ob_e hf
  have hF := u_free hD hS hA
  refine u_calli (va_runS (As := [.int x1, .int 7]) (rest := []) ⟨hx, hb, hml, hown, hts⟩ (ct_X3_in l dC dI h k T σ s.heap.size x1 7 _ hc) (va_cwS 2 hts (gd_S mg_380 mg_381 mg_36 mg_382) rfl rfl rfl (by decide +kernel) ⟨Nat.le_of_ble_eq_true rfl, Nat.le_of_ble_eq_true rfl⟩) (u_preS zB_g hK hP hD hS hF hZ) rfl rfl hl.1 rfl (lv_room (Nat.le_of_ble_eq_true rfl)) dX3_replace_3 ⟨Nat.le_refl _, Nat.le_refl _⟩) hS hF (fun H locs hP hD hS => ?_)
  refine lv_if_eq (tgt := 18) hx hb dX3_replace_6 (by decide) (fun hq => ?_) (fun hq => ?_)
  · have hf := gs_t hf hq
    refine lv_iconst (v := (-1)) hx hb dX3_replace_18 (by decide) ?_
    exact W.iret (v := (-1)) hx hb hr (fun t ht hW => u_ri (Option.some.inj hf) ht hW hP hK hD hS) hS.2.2 dX3_replace_19
  · have hf := gs_f hf hq
    refine lv_aload_n hx hb dX3_replace_9 rfl (lv_at hl 0 rfl) ?_
    refine va_get (D := (dC, dI)) (ci := 3) (v := .ref (h 5)) (C := RX3) (T := TX3) (N := 11) hx hb hts inG_X3 hown hK hP 0 rfl rfl 5 (by decide) (hts _ mg_370) (fun _ h9 => h9) rfl dX3_replace_10 ?_
    refine lv_iload_n hx hb dX3_replace_13 rfl (lv_at hl 1 rfl) ?_
    obtain ⟨hin, hf⟩ := gs_gd_e hf
    refine va_zald hx hb hK hP 5 4 rfl rfl hin dX3_replace_14 ?_
    refine lv_if_ne (tgt := 20) hx hb dX3_replace_15 (by decide) (fun hq => ?_) (fun hq => ?_)
    · have hf := gs_f hf hq
      refine lv_aload_n hx hb dX3_replace_20 rfl (lv_at hl 0 rfl) ?_
      refine va_get (D := (dC, dI)) (ci := 3) (v := .ref (h 5)) (C := RX3) (T := TX3) (N := 11) hx hb hts inG_X3 hown hK hP 0 rfl rfl 5 (by decide) (hts _ mg_370) (fun _ h9 => h9) rfl dX3_replace_21 ?_
      refine lv_iload_n hx hb dX3_replace_24 rfl (lv_at hl 1 rfl) ?_
      refine lv_iconst (v := 0) hx hb dX3_replace_25 (by decide) ?_
      obtain ⟨hin, hf⟩ := gs_gd_e hf
      refine va_zast hx hb hK hP hD hS 5 4 rfl rfl hin dX3_replace_26 (fun H locs hP hD hS => ?_)
      obtain ⟨σ3, es, hf⟩ := gs_lt_e hf
      have hP : va_P (dC, dI) vwCl (wB h k T σ3) H := by rw [es]; exact hP
      have hD : va_D A (wB h k T σ3) := by rw [es]; exact hD
      clear es
      refine lv_iconst (v := 0) hx hb dX3_replace_27 (by decide) ?_
      exact W.iret (v := 0) hx hb hr (fun t ht hW => u_ri (Option.some.inj hf) ht hW hP hK hD hS) hS.2.2 dX3_replace_28
    · have hf := gs_t hf hq
      refine lv_iconst (v := (-1)) hx hb dX3_replace_18 (by decide) ?_
      exact W.iret (v := (-1)) hx hb hr (fun t ht hW => u_ri (Option.some.inj hf) ht hW hP hK hD hS) hS.2.2 dX3_replace_19
set_option maxHeartbeats 4000000 in
set_option maxRecDepth 100000 in
theorem ct_X3_alter (l : Launch) (dC : Nat → ClassId) (dI : Nat → Nat → Nat) (h : Nat → Nat) (k : Nat → ClassId) (T : Nat) (σ : gS) (sz : Nat) (x1 : Int32) (x2 : Int32) (x3 : Int32) (y : Int32 × gS) (hf : fn_X3_alter T x1 x2 x3 σ = some y) : Met l yX3_alter wsX3_alter ({ frames := 1, cells := 0, slots := 0, locals := 21 }) (va_Pc [.ref (h 0), .int x1, .int x2, .int x3] (uPre (dC, dI) vwCl (tB k) (wB h k T) zB σ sz)) (va_Qi (fun r u => (r, u) = y) (uAt (dC, dI) vwCl (tB k) (wB h k T) (va_A (wB h k T σ) sz)) (va_A (wB h k T σ) sz)) 0 0 (va_A (wB h k T σ) sz) := by
  refine Met.ofW (cc := cX3_alter) (maxL := 4) (ret := (some .int)) (by decide) rfl ?_
  intro p e s m args below meth c s₁ B hml hv
  obtain ⟨rfl, hsz, hP, hK, hD0, hZ⟩ := hv
  have hx := B.exec
  have hb := B.bytes
  have hr := B.returns
  have hts : ∀ w ∈ gG, w.before _ s = true := fun w h => atoms_spec (ws := wsX3_alter) B.pre w (List.mem_cons_of_mem _ h)
  have hown : s.vm.findClass RX3 = some m.cls := findClass_of_methodNamed B.named
  have hlocks := B.notSynchronized
  subst hsz
  have hD := hD0.self (sz := s.heap.size)
  generalize hAe : va_A (wB h k T σ) s.heap.size = A at hD hZ ⊢
  have hA : ∀ q : Nat, s.heap.size ≤ q → A q := fun q h => by rw [← hAe]; exact Or.inr h
  have hS : va_S A s.heap s.heap [] := va_S.rf
  have hl := lv_entry ([.ref (h 0), .int x1, .int x2, .int x3]) (n := 4) (Nat.le_of_ble_eq_true rfl)
  rw [lg_entry_eq]
  generalize (lg_sl ([.ref (h 0), .int x1, .int x2, .int x3]) ++ List.replicate (4 - (lg_sl ([.ref (h 0), .int x1, .int x2, .int x3])).length) Slot.unset).toArray = ls at hl ⊢
  have hl : lv_has ls 4 [(0, .ref (h 0)), (1, .int x1), (2, .int x2), (3, .int x3)] := hl
  rw [fn_X3_alter] at hf
  refine lv_iload_n hx hb dX3_alter_0 rfl (lv_at hl 1 rfl) ?_
  refine lv_aload_n hx hb dX3_alter_1 rfl (lv_at hl 0 rfl) ?_
  refine va_get (D := (dC, dI)) (ci := 3) (v := .int (σ 0 0)) (C := RX3) (T := TX3) (N := 11) hx hb hts inG_X3 hown hK hP 0 rfl rfl 0 (by decide) (hts _ mg_365) (fun _ h9 => h9) rfl dX3_alter_2 ?_
  obtain ⟨r1, σ2, hc, hf⟩ := gs_ob_e hf
  have hF := u_free hD hS hA
  refine u_calli (va_runS (As := [.int x1, .int (σ 0 0)]) (rest := []) ⟨hx, hb, hml, hown, hts⟩ (ct_X3_in l dC dI h k T σ s.heap.size x1 (σ 0 0) _ hc) (va_cwS 2 hts (gd_S mg_380 mg_381 mg_36 mg_382) rfl rfl rfl (by decide +kernel) ⟨Nat.le_of_ble_eq_true rfl, Nat.le_of_ble_eq_true rfl⟩) (u_preS zB_g hK hP hD hS hF hZ) rfl rfl hl.1 rfl (lv_room (Nat.le_of_ble_eq_true rfl)) dX3_alter_5 ⟨Nat.le_refl _, Nat.le_refl _⟩) hS hF (fun H locs hP hD hS => ?_)
  refine lv_if_eq (tgt := 36) hx hb dX3_alter_8 (by decide) (fun hq => ?_) (fun hq => ?_)
  · have hf := gs_t hf hq
    refine lv_iconst (v := (-1)) hx hb dX3_alter_36 (by decide) ?_
    exact W.iret (v := (-1)) hx hb hr (fun t ht hW => u_ri (Option.some.inj hf) ht hW hP hK hD hS) hS.2.2 dX3_alter_37
  · have hf := gs_f hf hq
    refine lv_iload_n hx hb dX3_alter_11 rfl (lv_at hl 2 rfl) ?_
    refine lv_iconst (v := 4) hx hb dX3_alter_12 (by decide) ?_
    obtain ⟨r3, σ4, hc, hf⟩ := gs_ob_e hf
    have hF := u_free hD hS hA
    refine u_calli (va_runS (As := [.int x2, .int 4]) (rest := []) ⟨hx, hb, hml, hown, hts⟩ (ct_X3_in l dC dI h k T σ2 H.size x2 4 _ hc) (va_cwS 2 hts (gd_S mg_380 mg_381 mg_36 mg_382) rfl rfl rfl (by decide +kernel) ⟨Nat.le_of_ble_eq_true rfl, Nat.le_of_ble_eq_true rfl⟩) (u_preS zB_g hK hP hD hS hF hZ) rfl rfl hl.1 rfl (lv_room (Nat.le_of_ble_eq_true rfl)) dX3_alter_13 ⟨Nat.le_refl _, Nat.le_refl _⟩) hS hF (fun H locs hP hD hS => ?_)
    refine lv_if_eq (tgt := 36) hx hb dX3_alter_16 (by decide) (fun hq => ?_) (fun hq => ?_)
    · have hf := gs_t hf hq
      refine lv_iconst (v := (-1)) hx hb dX3_alter_36 (by decide) ?_
      exact W.iret (v := (-1)) hx hb hr (fun t ht hW => u_ri (Option.some.inj hf) ht hW hP hK hD hS) hS.2.2 dX3_alter_37
    · have hf := gs_f hf hq
      refine lv_aload_n hx hb dX3_alter_19 rfl (lv_at hl 0 rfl) ?_
      refine va_get (D := (dC, dI)) (ci := 3) (v := .ref (h 3)) (C := RX3) (T := TX3) (N := 11) hx hb hts inG_X3 hown hK hP 0 rfl rfl 3 (by decide) (hts _ mg_368) (fun _ h9 => h9) rfl dX3_alter_20 ?_
      refine lv_iconst (v := 4) hx hb dX3_alter_23 (by decide) ?_
      refine lv_iload_n hx hb dX3_alter_24 rfl (lv_at hl 1 rfl) ?_
      refine lv_imul hx hb dX3_alter_25 ?_
      refine lv_iload_n hx hb dX3_alter_26 rfl (lv_at hl 2 rfl) ?_
      refine lv_iadd hx hb dX3_alter_27 ?_
      obtain ⟨hin, hf⟩ := gs_gd_e hf
      refine va_zald hx hb hK hP 3 2 rfl rfl hin dX3_alter_28 ?_
      refine lv_if_ne (tgt := 36) hx hb dX3_alter_29 (by decide) (fun hq => ?_) (fun hq => ?_)
      · have hf := gs_f hf hq
        refine lv_iconst (v := (-1)) hx hb dX3_alter_36 (by decide) ?_
        exact W.iret (v := (-1)) hx hb hr (fun t ht hW => u_ri (Option.some.inj hf) ht hW hP hK hD hS) hS.2.2 dX3_alter_37
      · have hf := gs_t hf hq
        refine lv_iload_n hx hb dX3_alter_32 rfl (lv_at hl 3 rfl) ?_
        refine lv_if_ne (tgt := 38) hx hb dX3_alter_33 (by decide) (fun hq => ?_) (fun hq => ?_)
        · have hf := gs_f hf hq
          refine lv_aload_n hx hb dX3_alter_38 rfl (lv_at hl 0 rfl) ?_
          refine va_get (D := (dC, dI)) (ci := 3) (v := .ref (h 2)) (C := RX3) (T := TX3) (N := 11) hx hb hts inG_X3 hown hK hP 0 rfl rfl 2 (by decide) (hts _ mg_367) (fun _ h9 => h9) rfl dX3_alter_39 ?_
          refine lv_iconst (v := 4) hx hb dX3_alter_42 (by decide) ?_
          refine lv_iload_n hx hb dX3_alter_43 rfl (lv_at hl 1 rfl) ?_
          refine lv_imul hx hb dX3_alter_44 ?_
          refine lv_iload_n hx hb dX3_alter_45 rfl (lv_at hl 2 rfl) ?_
          refine lv_iadd hx hb dX3_alter_46 ?_
          refine lv_dup2_11 hx hb dX3_alter_47 rfl rfl ?_
          obtain ⟨hin, hf⟩ := gs_gd_e hf
          refine va_iald hx hb hK hP 2 1 rfl rfl hin dX3_alter_48 ?_
          refine lv_iload_n hx hb dX3_alter_49 rfl (lv_at hl 3 rfl) ?_
          refine lv_ixor hx hb dX3_alter_50 ?_
          obtain ⟨hin, hf⟩ := gs_gd_e hf
          refine va_iast hx hb hK hP hD hS 2 1 rfl rfl hin dX3_alter_51 (fun H locs hP hD hS => ?_)
          obtain ⟨σ5, es, hf⟩ := gs_lt_e hf
          have hP : va_P (dC, dI) vwCl (wB h k T σ5) H := by rw [es]; exact hP
          have hD : va_D A (wB h k T σ5) := by rw [es]; exact hD
          clear es
          refine lv_iconst (v := 0) hx hb dX3_alter_52 (by decide) ?_
          exact W.iret (v := 0) hx hb hr (fun t ht hW => u_ri (Option.some.inj hf) ht hW hP hK hD hS) hS.2.2 dX3_alter_53
        · have hf := gs_t hf hq
          refine lv_iconst (v := (-1)) hx hb dX3_alter_36 (by decide) ?_
          exact W.iret (v := (-1)) hx hb hr (fun t ht hW => u_ri (Option.some.inj hf) ht hW hP hK hD hS) hS.2.2 dX3_alter_37
set_option maxHeartbeats 4000000 in
set_option maxRecDepth 100000 in
theorem ct_X3_movedOf (l : Launch) (dC : Nat → ClassId) (dI : Nat → Nat → Nat) (h : Nat → Nat) (k : Nat → ClassId) (T : Nat) (σ : gS) (sz : Nat) (x1 : Int32) (y : Int32 × gS) (hf : fn_X3_movedOf T x1 σ = some y) : Met l yX3_movedOf wsX3_movedOf ({ frames := 0, cells := 0, slots := 0, locals := 0 }) (va_Pc [.ref (h 0), .int x1] (uPre (dC, dI) vwCl (tB k) (wB h k T) zB σ sz)) (va_Qi (fun r u => (r, u) = y) (uAt (dC, dI) vwCl (tB k) (wB h k T) (va_A (wB h k T σ) sz)) (va_A (wB h k T σ) sz)) 0 0 (va_A (wB h k T σ) sz) := by
  refine Met.ofW (cc := cX3_movedOf) (maxL := 3) (ret := (some .int)) (by decide) rfl ?_
  intro p e s m args below meth c s₁ B hml hv
  obtain ⟨rfl, hsz, hP, hK, hD0, hZ⟩ := hv
  have hx := B.exec
  have hb := B.bytes
  have hr := B.returns
  have hts : ∀ w ∈ gG, w.before _ s = true := fun w h => atoms_spec (ws := wsX3_movedOf) B.pre w (List.mem_cons_of_mem _ h)
  have hown : s.vm.findClass RX3 = some m.cls := findClass_of_methodNamed B.named
  have hlocks := B.notSynchronized
  subst hsz
  have hD := hD0.self (sz := s.heap.size)
  generalize hAe : va_A (wB h k T σ) s.heap.size = A at hD hZ ⊢
  have hA : ∀ q : Nat, s.heap.size ≤ q → A q := fun q h => by rw [← hAe]; exact Or.inr h
  have hS : va_S A s.heap s.heap [] := va_S.rf
  have L2 : ∀ (n : Nat), ∀ (z1 : Int32) (z2 : Int32) (σ : gS) (H : Heap) (locs : List Loc) (ls : Array Slot), fn_X3_movedOf_L2 T n z1 z2 σ = some y → va_P (dC, dI) vwCl (wB h k T σ) H → va_D A (wB h k T σ) → va_S A s.heap H locs → lv_has ls 3 [(0, .ref (h 0)), (1, .int z1), (2, .int z2)] → W p l e ({ frames := 0, cells := 0, slots := 0, locals := 0 }) s m ([.ref (h 0), .int x1] : List Value).toArray below meth c H locs 0 0 (MQ below (va_Qi (fun r u => (r, u) = y) (uAt (dC, dI) vwCl (tB k) (wB h k T) A) A) ([.ref (h 0), .int x1] : List Value).toArray s 0 0 A) (F0 m 2 ls []) := by
    intro n
    induction n with
    | zero => intro z1 z2 σ H locs ls hf; exact absurd hf (by rw [fn_X3_movedOf_L2]; exact nofun)
    | succ n ih =>
      intro z1 z2 σ H locs ls hf hP hD hS hl
      rw [fn_X3_movedOf_L2] at hf
      refine lv_iload_n hx hb dX3_movedOf_2 rfl (lv_at hl 2 rfl) ?_
      refine lv_iconst (v := 4) hx hb dX3_movedOf_3 (by decide) ?_
      refine lv_icmp_ge (tgt := 28) hx hb dX3_movedOf_4 (by decide) (fun hq => ?_) (fun hq => ?_)
      · have hf := gs_t hf hq
        refine lv_iconst (v := 4) hx hb dX3_movedOf_28 (by decide) ?_
        exact W.iret (v := 4) hx hb hr (fun t ht hW => u_ri (Option.some.inj hf) ht hW hP hK hD hS) hS.2.2 dX3_movedOf_29
      · have hf := gs_f hf hq
        refine lv_aload_n hx hb dX3_movedOf_7 rfl (lv_at hl 0 rfl) ?_
        refine va_get (D := (dC, dI)) (ci := 3) (v := .ref (h 4)) (C := RX3) (T := TX3) (N := 11) hx hb hts inG_X3 hown hK hP 0 rfl rfl 4 (by decide) (hts _ mg_369) (fun _ h9 => h9) rfl dX3_movedOf_8 ?_
        refine lv_iconst (v := 4) hx hb dX3_movedOf_11 (by decide) ?_
        refine lv_iload_n hx hb dX3_movedOf_12 rfl (lv_at hl 1 rfl) ?_
        refine lv_imul hx hb dX3_movedOf_13 ?_
        refine lv_iload_n hx hb dX3_movedOf_14 rfl (lv_at hl 2 rfl) ?_
        refine lv_iadd hx hb dX3_movedOf_15 ?_
        obtain ⟨hin, hf⟩ := gs_gd_e hf
        refine va_zald hx hb hK hP 4 3 rfl rfl hin dX3_movedOf_16 ?_
        refine lv_if_eq (tgt := 22) hx hb dX3_movedOf_17 (by decide) (fun hq => ?_) (fun hq => ?_)
        · have hf := gs_t hf hq
          refine lv_iinc (v := z2 + 1) (lv' := [(2, .int (z2 + 1)), (0, .ref (h 0)), (1, .int z1)]) hx hb dX3_movedOf_22 hl (k := 2) rfl rfl (by decide) rfl (fun ls hl => ?_)
          refine lv_goto (tgt := 2) hx hb dX3_movedOf_25 (by decide) ?_
          exact ih z1 (z2 + 1) σ _ _ _ hf hP hD hS (lv_sub hl [1, 2, 0] rfl)
        · have hf := gs_f hf hq
          refine lv_iload_n hx hb dX3_movedOf_20 rfl (lv_at hl 2 rfl) ?_
          exact W.iret (v := z2) hx hb hr (fun t ht hW => u_ri (Option.some.inj hf) ht hW hP hK hD hS) hS.2.2 dX3_movedOf_21
  have hl := lv_entry ([.ref (h 0), .int x1]) (n := 3) (Nat.le_of_ble_eq_true rfl)
  rw [lg_entry_eq]
  generalize (lg_sl ([.ref (h 0), .int x1]) ++ List.replicate (3 - (lg_sl ([.ref (h 0), .int x1])).length) Slot.unset).toArray = ls at hl ⊢
  have hl : lv_has ls 3 [(0, .ref (h 0)), (1, .int x1)] := hl
  rw [fn_X3_movedOf] at hf
  refine lv_iconst (v := 0) hx hb dX3_movedOf_0 (by decide) ?_
  refine lv_istore_n (lv' := [(2, .int 0), (0, .ref (h 0)), (1, .int x1)]) hx hb dX3_movedOf_1 rfl hl (by decide) rfl (fun ls hl => ?_)
  exact L2 gs_fu x1 0 σ _ _ _ hf hP hD hS (lv_sub hl [1, 2, 0] rfl)
