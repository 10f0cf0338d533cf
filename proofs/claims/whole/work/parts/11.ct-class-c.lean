set_option maxHeartbeats 4000000 in
set_option maxRecDepth 100000 in
theorem ct_X1_changeWord (l : Launch) (dC : Nat → ClassId) (dI : Nat → Nat → Nat) (h : Nat → Nat) (k : Nat → ClassId) (T : Nat) (σ : gS) (sz : Nat) (x1 : Int32) (x2 : Int32) (x3 : Int32) (y : Int32 × gS) (hf : fn_X1_changeWord T x1 x2 x3 σ = some y) : Met l yX1_changeWord wsX1_changeWord ({ frames := 1, cells := 0, slots := 0, locals := 21 }) (va_Pc [.ref (h 1), .int x1, .int x2, .int x3] (uPre (dC, dI) vwCl (tA k) (wA h k T) zA σ sz)) (va_Qv (fun u => u = y.2) (uAt (dC, dI) vwCl (tA k) (wA h k T) (va_A (wA h k T σ) sz)) (va_A (wA h k T σ) sz)) 0 0 (va_A (wA h k T σ) sz) := by
  refine Met.ofW (cc := cX1_changeWord) (maxL := 5) (ret := none) (by decide) rfl ?_
  intro p e s m args below meth c s₁ B hml hv
  obtain ⟨rfl, hsz, hP, hK, hD0, hZ⟩ := hv
  have hx := B.exec
  have hb := B.bytes
  have hr := B.returns
  have hts : ∀ w ∈ gG, w.before _ s = true := fun w h => atoms_spec (ws := wsX1_changeWord) B.pre w (List.mem_cons_of_mem _ h)
  have hown : s.vm.findClass RX1 = some m.cls := findClass_of_methodNamed B.named
  have hlocks := B.notSynchronized
  subst hsz
  have hD := hD0.self (sz := s.heap.size)
  generalize hAe : va_A (wA h k T σ) s.heap.size = A at hD hZ ⊢
  have hA : ∀ q : Nat, s.heap.size ≤ q → A q := fun q h => by rw [← hAe]; exact Or.inr h
  have hS : va_S A s.heap s.heap [] := va_S.rf
  obtain ⟨t0, hZ0, hT0, hN0⟩ := id hZ
  have hl := lv_entry ([.ref (h 1), .int x1, .int x2, .int x3]) (n := 5) (Nat.le_of_ble_eq_true rfl)
  rw [lg_entry_eq]
  generalize (lg_sl ([.ref (h 1), .int x1, .int x2, .int x3]) ++ List.replicate (5 - (lg_sl ([.ref (h 1), .int x1, .int x2, .int x3])).length) Slot.unset).toArray = ls at hl ⊢
  have hl : lv_has ls 5 [(0, .ref (h 1)), (1, .int x1), (2, .int x2), (3, .int x3)] := hl
  rw [fn_X1_changeWord] at hf
  refine lv_iload_n hx hb dX1_changeWord_0 rfl (lv_at hl 1 rfl) ?_
  refine lv_iload_n hx hb dX1_changeWord_1 rfl (lv_at hl 2 rfl) ?_
  obtain ⟨r1, σ2, hc, hf⟩ := gs_ob_e hf
  have hF := u_free hD hS hA
  refine u_calli (va_runS (As := [.int x1, .int x2]) (rest := []) ⟨hx, hb, hml, hown, hts⟩ (ct_X1_place l dC dI h k T σ s.heap.size x1 x2 _ hc) (va_cwS 2 hts (gd_S mg_164 mg_165 mg_34 mg_166) rfl rfl rfl (by decide +kernel) ⟨Nat.le_of_ble_eq_true rfl, Nat.le_of_ble_eq_true rfl⟩) (u_preS zA_g hK hP hD hS hF hZ) rfl rfl hl.1 rfl (lv_room (Nat.le_of_ble_eq_true rfl)) dX1_changeWord_2 ⟨Nat.le_refl _, Nat.le_refl _⟩) hS hF (fun H locs hP hD hS => ?_)
  refine lv_istore (lv' := [(4, .int r1), (0, .ref (h 1)), (1, .int x1), (2, .int x2), (3, .int x3)]) hx hb dX1_changeWord_5 hl (by decide) rfl (fun ls hl => ?_)
  refine lv_aload_n hx hb dX1_changeWord_7 rfl (lv_at hl 1 rfl) ?_
  refine va_get (D := (dC, dI)) (ci := 1) (v := .ref (h 3)) (C := RX1) (T := TX1) (N := 7) hx hb hts inG_X1 hown hK hP 1 rfl rfl 2 (by decide) (hts _ mg_59) (fun _ h9 => h9) rfl dX1_changeWord_8 ?_
  refine lv_iload hx hb dX1_changeWord_11 (lv_at hl 0 rfl) ?_
  refine lv_dup2_11 hx hb dX1_changeWord_13 rfl rfl ?_
  obtain ⟨hin, hf⟩ := gs_gd_e hf
  refine va_iald hx hb hK hP 3 1 rfl rfl hin dX1_changeWord_14 ?_
  refine lv_iload_n hx hb dX1_changeWord_15 rfl (lv_at hl 4 rfl) ?_
  refine lv_ixor hx hb dX1_changeWord_16 ?_
  obtain ⟨hin, hf⟩ := gs_gd_e hf
  refine va_iast hx hb hK hP hD hS 3 1 rfl rfl hin dX1_changeWord_17 (fun H locs hP hD hS => ?_)
  obtain ⟨σ3, es, hf⟩ := gs_lt_e hf
  have hP : va_P (dC, dI) vwCl (wA h k T σ3) H := by rw [es]; exact hP
  have hD : va_D A (wA h k T σ3) := by rw [es]; exact hD
  clear es
  refine lv_aload_n hx hb dX1_changeWord_18 rfl (lv_at hl 1 rfl) ?_
  refine va_get (D := (dC, dI)) (ci := 1) (v := .ref (h 5)) (C := RX1) (T := TX1) (N := 7) hx hb hts inG_X1 hown hK hP 1 rfl rfl 4 (by decide) (hts _ mg_61) (fun _ h9 => h9) rfl dX1_changeWord_19 ?_
  refine lv_iload hx hb dX1_changeWord_22 (lv_at hl 0 rfl) ?_
  obtain ⟨hin, hf⟩ := gs_gd_e hf
  refine va_zald hx hb hK hP 5 3 rfl rfl hin dX1_changeWord_24 ?_
  refine lv_if_ne (tgt := 42) hx hb dX1_changeWord_25 (by decide) (fun hq => ?_) (fun hq => ?_)
  · have hf := gs_f hf hq
    exact W.vret hx hb hr (fun t ht hW => u_rv (Option.some.inj hf) ht hW hP hK hD hS) hS.2.2 dX1_changeWord_42
  · have hf := gs_t hf hq
    refine lv_aload_n hx hb dX1_changeWord_28 rfl (lv_at hl 1 rfl) ?_
    refine va_get (D := (dC, dI)) (ci := 1) (v := .ref (h 4)) (C := RX1) (T := TX1) (N := 7) hx hb hts inG_X1 hown hK hP 1 rfl rfl 3 (by decide) (hts _ mg_60) (fun _ h9 => h9) rfl dX1_changeWord_29 ?_
    refine lv_iload hx hb dX1_changeWord_32 (lv_at hl 0 rfl) ?_
    refine lv_aload_n hx hb dX1_changeWord_34 rfl (lv_at hl 1 rfl) ?_
    refine va_get (D := (dC, dI)) (ci := 1) (v := .ref (h 3)) (C := RX1) (T := TX1) (N := 7) hx hb hts inG_X1 hown hK hP 1 rfl rfl 2 (by decide) (hts _ mg_59) (fun _ h9 => h9) rfl dX1_changeWord_35 ?_
    refine lv_iload hx hb dX1_changeWord_38 (lv_at hl 0 rfl) ?_
    obtain ⟨hin, hf⟩ := gs_gd_e hf
    refine va_iald hx hb hK hP 3 1 rfl rfl hin dX1_changeWord_40 ?_
    obtain ⟨hin, hf⟩ := gs_gd_e hf
    refine va_iast hx hb hK hP hD hS 4 2 rfl rfl hin dX1_changeWord_41 (fun H locs hP hD hS => ?_)
    obtain ⟨σ4, es, hf⟩ := gs_lt_e hf
    have hP : va_P (dC, dI) vwCl (wA h k T σ4) H := by rw [es]; exact hP
    have hD : va_D A (wA h k T σ4) := by rw [es]; exact hD
    clear es
    exact W.vret hx hb hr (fun t ht hW => u_rv (Option.some.inj hf) ht hW hP hK hD hS) hS.2.2 dX1_changeWord_42
set_option maxHeartbeats 4000000 in
set_option maxRecDepth 100000 in
theorem ct_X1_setBlock (l : Launch) (dC : Nat → ClassId) (dI : Nat → Nat → Nat) (h : Nat → Nat) (k : Nat → ClassId) (T : Nat) (σ : gS) (sz : Nat) (x1 : Int32) (x2 : Int32) (x3 : Int32) (y : Int32 × gS) (hf : fn_X1_setBlock T x1 x2 x3 σ = some y) : Met l yX1_setBlock wsX1_setBlock ({ frames := 2, cells := 0, slots := 0, locals := 45 }) (va_Pc [.ref (h 1), .int x1, .int x2, .int x3] (uPre (dC, dI) vwCl (tA k) (wA h k T) zA σ sz)) (va_Qv (fun u => u = y.2) (uAt (dC, dI) vwCl (tA k) (wA h k T) (va_A (wA h k T σ) sz)) (va_A (wA h k T σ) sz)) 0 0 (va_A (wA h k T σ) sz) := by
  refine Met.ofW (cc := cX1_setBlock) (maxL := 5) (ret := none) (by decide) rfl ?_
  intro p e s m args below meth c s₁ B hml hv
  obtain ⟨rfl, hsz, hP, hK, hD0, hZ⟩ := hv
  have hx := B.exec
  have hb := B.bytes
  have hr := B.returns
  have hts : ∀ w ∈ gG, w.before _ s = true := fun w h => atoms_spec (ws := wsX1_setBlock) B.pre w (List.mem_cons_of_mem _ h)
  have hown : s.vm.findClass RX1 = some m.cls := findClass_of_methodNamed B.named
  have hlocks := B.notSynchronized
  subst hsz
  have hD := hD0.self (sz := s.heap.size)
  generalize hAe : va_A (wA h k T σ) s.heap.size = A at hD hZ ⊢
  have hA : ∀ q : Nat, s.heap.size ≤ q → A q := fun q h => by rw [← hAe]; exact Or.inr h
  have hS : va_S A s.heap s.heap [] := va_S.rf
  obtain ⟨t0, hZ0, hT0, hN0⟩ := id hZ
  have hl := lv_entry ([.ref (h 1), .int x1, .int x2, .int x3]) (n := 5) (Nat.le_of_ble_eq_true rfl)
  rw [lg_entry_eq]
  generalize (lg_sl ([.ref (h 1), .int x1, .int x2, .int x3]) ++ List.replicate (5 - (lg_sl ([.ref (h 1), .int x1, .int x2, .int x3])).length) Slot.unset).toArray = ls at hl ⊢
  have hl : lv_has ls 5 [(0, .ref (h 1)), (1, .int x1), (2, .int x2), (3, .int x3)] := hl
  rw [fn_X1_setBlock] at hf
  refine lv_aload_n hx hb dX1_setBlock_0 rfl (lv_at hl 0 rfl) ?_
  refine lv_iload_n hx hb dX1_setBlock_1 rfl (lv_at hl 1 rfl) ?_
  refine lv_iload_n hx hb dX1_setBlock_2 rfl (lv_at hl 2 rfl) ?_
  obtain ⟨r1, σ2, hc, hf⟩ := gs_ob_e hf
  have hF := u_free hD hS hA
  refine u_calli (va_runV (As := [.int x1, .int x2]) (rest := []) ⟨hx, hb, hml, hown, hts⟩ (ct_X1_dueWord l dC dI h k T σ s.heap.size x1 x2 _ hc) (cwV 2 hts (gd_V mg_187 mg_188 mg_189 mg_34 mg_190) rfl rfl rfl (by decide +kernel) ⟨Nat.le_of_ble_eq_true rfl, Nat.le_of_ble_eq_true rfl⟩) (u_preV zA_g hK hP hD hS hF hZ (va_recv hK hP (ci := 1) (q0 := 1) rfl rfl)) rfl rfl hl.1 rfl (lv_room (Nat.le_of_ble_eq_true rfl)) dX1_setBlock_3 ⟨Nat.le_refl _, Nat.le_refl _⟩) hS hF (fun H locs hP hD hS => ?_)
  refine lv_iload_n hx hb dX1_setBlock_6 rfl (lv_at hl 3 rfl) ?_
  refine lv_ixor hx hb dX1_setBlock_7 ?_
  refine lv_istore (lv' := [(4, .int (r1 ^^^ x3)), (0, .ref (h 1)), (1, .int x1), (2, .int x2), (3, .int x3)]) hx hb dX1_setBlock_8 hl (by decide) rfl (fun ls hl => ?_)
  refine lv_aload_n hx hb dX1_setBlock_10 rfl (lv_at hl 1 rfl) ?_
  refine lv_iload_n hx hb dX1_setBlock_11 rfl (lv_at hl 2 rfl) ?_
  refine lv_iload_n hx hb dX1_setBlock_12 rfl (lv_at hl 3 rfl) ?_
  refine lv_iload hx hb dX1_setBlock_13 (lv_at hl 0 rfl) ?_
  obtain ⟨r3, σ4, hc, hf⟩ := gs_ob_e hf
  have hF := u_free hD hS hA
  refine u_callv (va_runV (As := [.int x1, .int x2, .int (r1 ^^^ x3)]) (rest := []) ⟨hx, hb, hml, hown, hts⟩ (ct_X1_changeWord l dC dI h k T σ2 H.size x1 x2 (r1 ^^^ x3) _ hc) (cwV 3 hts (gd_V mg_191 mg_192 mg_8 mg_34 mg_193) rfl rfl rfl (by decide +kernel) ⟨Nat.le_of_ble_eq_true rfl, Nat.le_of_ble_eq_true rfl⟩) (u_preV zA_g hK hP hD hS hF hZ (va_recv hK hP (ci := 1) (q0 := 1) rfl rfl)) rfl rfl hl.1 rfl (lv_room (Nat.le_of_ble_eq_true rfl)) dX1_setBlock_15 ⟨Nat.le_refl _, Nat.le_refl _⟩) hS hF (fun H locs hP hD hS => ?_)
  refine lv_aload_n hx hb dX1_setBlock_18 rfl (lv_at hl 1 rfl) ?_
  refine lv_iload_n hx hb dX1_setBlock_19 rfl (lv_at hl 2 rfl) ?_
  refine lv_iconst (v := 3) hx hb dX1_setBlock_20 (by decide) ?_
  refine lv_iload hx hb dX1_setBlock_21 (lv_at hl 0 rfl) ?_
  obtain ⟨r5, σ6, hc, hf⟩ := gs_ob_e hf
  have hF := u_free hD hS hA
  refine u_callv (va_runV (As := [.int x1, .int 3, .int (r1 ^^^ x3)]) (rest := []) ⟨hx, hb, hml, hown, hts⟩ (ct_X1_changeWord l dC dI h k T σ4 H.size x1 3 (r1 ^^^ x3) _ hc) (cwV 3 hts (gd_V mg_191 mg_192 mg_8 mg_34 mg_193) rfl rfl rfl (by decide +kernel) ⟨Nat.le_of_ble_eq_true rfl, Nat.le_of_ble_eq_true rfl⟩) (u_preV zA_g hK hP hD hS hF hZ (va_recv hK hP (ci := 1) (q0 := 1) rfl rfl)) rfl rfl hl.1 rfl (lv_room (Nat.le_of_ble_eq_true rfl)) dX1_setBlock_23 ⟨Nat.le_refl _, Nat.le_refl _⟩) hS hF (fun H locs hP hD hS => ?_)
  exact W.vret hx hb hr (fun t ht hW => u_rv (Option.some.inj hf) ht hW hP hK hD hS) hS.2.2 dX1_setBlock_26
set_option maxHeartbeats 4000000 in
set_option maxRecDepth 100000 in
theorem ct_X2_isCrash (l : Launch) (dC : Nat → ClassId) (dI : Nat → Nat → Nat) (h : Nat → Nat) (k : Nat → ClassId) (T : Nat) (σ : gS) (sz : Nat) (x0 : Int32) (y : Int32 × gS) (hf : fn_X2_isCrash T x0 σ = some y) : Met l yX2_isCrash wsX2_isCrash ({ frames := 0, cells := 0, slots := 0, locals := 0 }) (va_Pc [.int x0] (uPre (dC, dI) vwCl (tA k) (wA h k T) zA σ sz)) (va_Qi (fun r u => (r, u) = y) (uAt (dC, dI) vwCl (tA k) (wA h k T) (va_A (wA h k T σ) sz)) (va_A (wA h k T σ) sz)) 0 0 (va_A (wA h k T σ) sz) := by
  refine Met.ofW (cc := cX2_isCrash) (maxL := 1) (ret := (some .boolean)) (by decide) rfl ?_
  intro p e s m args below meth c s₁ B hml hv
  obtain ⟨rfl, hsz, hP, hK, hD0, hZ⟩ := hv
  have hx := B.exec
  have hb := B.bytes
  have hr := B.returns
  have hts : ∀ w ∈ gG, w.before _ s = true := fun w h => atoms_spec (ws := wsX2_isCrash) B.pre w (List.mem_cons_of_mem _ h)
  have hown : s.vm.findClass RX2 = some m.cls := findClass_of_methodNamed B.named
  have hlocks := B.notSynchronized
  subst hsz
  have hD := hD0.self (sz := s.heap.size)
  generalize hAe : va_A (wA h k T σ) s.heap.size = A at hD hZ ⊢
  have hA : ∀ q : Nat, s.heap.size ≤ q → A q := fun q h => by rw [← hAe]; exact Or.inr h
  have hS : va_S A s.heap s.heap [] := va_S.rf
  obtain ⟨t0, hZ0, hT0, hN0⟩ := id hZ
  have hl := lv_entry ([.int x0]) (n := 1) (Nat.le_of_ble_eq_true rfl)
  rw [lg_entry_eq]
  generalize (lg_sl ([.int x0]) ++ List.replicate (1 - (lg_sl ([.int x0])).length) Slot.unset).toArray = ls at hl ⊢
  have hl : lv_has ls 1 [(0, .int x0)] := hl
  rw [fn_X2_isCrash] at hf
  refine lv_iload_n hx hb dX2_isCrash_0 rfl (lv_at hl 0 rfl) ?_
  refine lv_if_lt (tgt := 13) hx hb dX2_isCrash_1 (by decide) (fun hq => ?_) (fun hq => ?_)
  · have hf := gs_t hf hq
    refine lv_iconst (v := 0) hx hb dX2_isCrash_13 (by decide) ?_
    exact W.zret (v := 0) (ty := .boolean) hx hb hr rfl (fun t ht hW => u_ri (Option.some.inj hf) ht hW hP hK hD hS) hS.2.2 dX2_isCrash_14
  · have hf := gs_f hf hq
    refine lv_iload_n hx hb dX2_isCrash_4 rfl (lv_at hl 0 rfl) ?_
    refine lv_iconst (v := 3) hx hb dX2_isCrash_5 (by decide) ?_
    refine lv_icmp_gt (tgt := 13) hx hb dX2_isCrash_6 (by decide) (fun hq => ?_) (fun hq => ?_)
    · have hf := gs_t hf hq
      refine lv_iconst (v := 0) hx hb dX2_isCrash_13 (by decide) ?_
      exact W.zret (v := 0) (ty := .boolean) hx hb hr rfl (fun t ht hW => u_ri (Option.some.inj hf) ht hW hP hK hD hS) hS.2.2 dX2_isCrash_14
    · have hf := gs_f hf hq
      refine lv_iconst (v := 1) hx hb dX2_isCrash_9 (by decide) ?_
      refine lv_goto (tgt := 14) hx hb dX2_isCrash_10 (by decide) ?_
      exact W.zret (v := 1) (ty := .boolean) hx hb hr rfl (fun t ht hW => u_ri (Option.some.inj hf) ht hW hP hK hD hS) hS.2.2 dX2_isCrash_14
set_option maxHeartbeats 4000000 in
set_option maxRecDepth 100000 in
theorem ct_X2_write (l : Launch) (dC : Nat → ClassId) (dI : Nat → Nat → Nat) (h : Nat → Nat) (k : Nat → ClassId) (T : Nat) (σ : gS) (sz : Nat) (x1 : Int32) (x2 : Int32) (x3 : Int32) (x4 : Int32) (y : Int32 × gS) (hf : fn_X2_write T x1 x2 x3 x4 σ = some y) : Met l yX2_write wsX2_write ({ frames := 4, cells := 0, slots := 0, locals := 90 }) (va_Pc [.ref (h 0), .int x1, .int x2, .int x3, .int x4] (uPre (dC, dI) vwCl (tA k) (wA h k T) zA σ sz)) (va_Qi (fun r u => (r, u) = y) (uAt (dC, dI) vwCl (tA k) (wA h k T) (va_A (wA h k T σ) sz)) (va_A (wA h k T σ) sz)) 0 0 (va_A (wA h k T σ) sz) := by
  refine Met.ofW (cc := cX2_write) (maxL := 8) (ret := (some .int)) (by decide) rfl ?_
  intro p e s m args below meth c s₁ B hml hv
  obtain ⟨rfl, hsz, hP, hK, hD0, hZ⟩ := hv
  have hx := B.exec
  have hb := B.bytes
  have hr := B.returns
  have hts : ∀ w ∈ gG, w.before _ s = true := fun w h => atoms_spec (ws := wsX2_write) B.pre w (List.mem_cons_of_mem _ h)
  have hown : s.vm.findClass RX2 = some m.cls := findClass_of_methodNamed B.named
  have hlocks := B.notSynchronized
  subst hsz
  have hD := hD0.self (sz := s.heap.size)
  generalize hAe : va_A (wA h k T σ) s.heap.size = A at hD hZ ⊢
  have hA : ∀ q : Nat, s.heap.size ≤ q → A q := fun q h => by rw [← hAe]; exact Or.inr h
  have hS : va_S A s.heap s.heap [] := va_S.rf
  obtain ⟨t0, hZ0, hT0, hN0⟩ := id hZ
  have hl := lv_entry ([.ref (h 0), .int x1, .int x2, .int x3, .int x4]) (n := 8) (Nat.le_of_ble_eq_true rfl)
  rw [lg_entry_eq]
  generalize (lg_sl ([.ref (h 0), .int x1, .int x2, .int x3, .int x4]) ++ List.replicate (8 - (lg_sl ([.ref (h 0), .int x1, .int x2, .int x3, .int x4])).length) Slot.unset).toArray = ls at hl ⊢
  have hl : lv_has ls 8 [(0, .ref (h 0)), (1, .int x1), (2, .int x2), (3, .int x3), (4, .int x4)] := hl
  rw [fn_X2_write] at hf
  refine lv_aload_n hx hb dX2_write_0 rfl (lv_at hl 0 rfl) ?_
  refine lv_iload_n hx hb dX2_write_1 rfl (lv_at hl 1 rfl) ?_
  refine lv_iload_n hx hb dX2_write_2 rfl (lv_at hl 2 rfl) ?_
  obtain ⟨r1, σ2, hc, hf⟩ := gs_ob_e hf
  have hF := u_free hD hS hA
  refine u_calli (va_runV (As := [.int x1, .int x2]) (rest := []) ⟨hx, hb, hml, hown, hts⟩ (ct_X2_blockAt l dC dI h k T σ s.heap.size x1 x2 _ hc) (cwV 2 hts (gd_V mg_141 mg_142 mg_7 mg_32 mg_143) rfl rfl rfl (by decide +kernel) ⟨Nat.le_of_ble_eq_true rfl, Nat.le_of_ble_eq_true rfl⟩) (u_preV zA_g hK hP hD hS hF hZ (va_recv hK hP (ci := 2) (q0 := 0) rfl rfl)) rfl rfl hl.1 rfl (lv_room (Nat.le_of_ble_eq_true rfl)) dX2_write_3 ⟨Nat.le_refl _, Nat.le_refl _⟩) hS hF (fun H locs hP hD hS => ?_)
  refine lv_istore (lv' := [(5, .int r1), (0, .ref (h 0)), (1, .int x1), (2, .int x2), (3, .int x3), (4, .int x4)]) hx hb dX2_write_6 hl (by decide) rfl (fun ls hl => ?_)
  refine lv_iload hx hb dX2_write_8 (lv_at hl 0 rfl) ?_
  refine lv_iconst (v := (-1)) hx hb dX2_write_10 (by decide) ?_
  refine lv_icmp_ne (tgt := 16) hx hb dX2_write_11 (by decide) (fun hq => ?_) (fun hq => ?_)
  · have hf := gs_f hf hq
    refine lv_iload hx hb dX2_write_16 (lv_at hl 0 rfl) ?_
    refine lv_iconst (v := 3) hx hb dX2_write_18 (by decide) ?_
    refine lv_idiv hx hb dX2_write_19 (by decide) ?_
    refine lv_istore (lv' := [(6, .int (r1 / 3)), (5, .int r1), (0, .ref (h 0)), (1, .int x1), (2, .int x2), (3, .int x3), (4, .int x4)]) hx hb dX2_write_20 hl (by decide) rfl (fun ls hl => ?_)
    refine lv_iload hx hb dX2_write_22 (lv_at hl 1 rfl) ?_
    refine lv_iconst (v := 3) hx hb dX2_write_24 (by decide) ?_
    refine lv_irem hx hb dX2_write_25 (by decide) ?_
    refine lv_istore (lv' := [(7, .int (r1 - r1 / 3 * 3)), (6, .int (r1 / 3)), (5, .int r1), (0, .ref (h 0)), (1, .int x1), (2, .int x2), (3, .int x3), (4, .int x4)]) hx hb dX2_write_26 hl (by decide) rfl (fun ls hl => ?_)
    refine lv_aload_n hx hb dX2_write_28 rfl (lv_at hl 3 rfl) ?_
    refine va_get (D := (dC, dI)) (ci := 2) (v := .ref (h 1)) (C := RX2) (T := TX2) (N := 2) hx hb hts inG_X2 hown hK hP 0 rfl rfl 0 (by decide) (hts _ mg_77) (fun _ h9 => h9) rfl dX2_write_29 ?_
    refine lv_iload hx hb dX2_write_32 (lv_at hl 1 rfl) ?_
    obtain ⟨r3, σ4, hc, hf⟩ := gs_ob_e hf
    have hF := u_free hD hS hA
    refine u_calli (va_runV (As := [.int (r1 / 3)]) (rest := []) ⟨hx, hb, hml, hown, hts⟩ (ct_X1_isBroken l dC dI h k T σ2 H.size (r1 / 3) _ hc) (cwV 1 hts (gd_V mg_152 mg_153 mg_154 mg_34 mg_155) rfl rfl rfl (by decide +kernel) ⟨Nat.le_of_ble_eq_true rfl, Nat.le_of_ble_eq_true rfl⟩) (u_preV zA_g hK hP hD hS hF hZ (va_recv hK hP (ci := 1) (q0 := 1) rfl rfl)) rfl rfl hl.1 rfl (lv_room (Nat.le_of_ble_eq_true rfl)) dX2_write_34 ⟨Nat.le_refl _, Nat.le_refl _⟩) hS hF (fun H locs hP hD hS => ?_)
    refine lv_if_eq (tgt := 43) hx hb dX2_write_37 (by decide) (fun hq => ?_) (fun hq => ?_)
    · have hf := gs_t hf hq
      refine lv_aload_n hx hb dX2_write_43 rfl (lv_at hl 3 rfl) ?_
      refine va_get (D := (dC, dI)) (ci := 2) (v := .ref (h 1)) (C := RX2) (T := TX2) (N := 2) hx hb hts inG_X2 hown hK hP 0 rfl rfl 0 (by decide) (hts _ mg_77) (fun _ h9 => h9) rfl dX2_write_44 ?_
      refine lv_iload hx hb dX2_write_47 (lv_at hl 1 rfl) ?_
      obtain ⟨r5, σ6, hc, hf⟩ := gs_ob_e hf
      have hF := u_free hD hS hA
      refine u_calli (va_runV (As := [.int (r1 / 3)]) (rest := []) ⟨hx, hb, hml, hown, hts⟩ (ct_X1_mendAll l dC dI h k T σ4 H.size (r1 / 3) _ hc) (cwV 1 hts (gd_V mg_171 mg_172 mg_173 mg_34 mg_174) rfl rfl rfl (by decide +kernel) ⟨Nat.le_of_ble_eq_true rfl, Nat.le_of_ble_eq_true rfl⟩) (u_preV zA_g hK hP hD hS hF hZ (va_recv hK hP (ci := 1) (q0 := 1) rfl rfl)) rfl rfl hl.1 rfl (lv_room (Nat.le_of_ble_eq_true rfl)) dX2_write_49 ⟨Nat.le_refl _, Nat.le_refl _⟩) hS hF (fun H locs hP hD hS => ?_)
      refine lv_pop hx hb dX2_write_52 rfl ?_
      refine lv_iload hx hb dX2_write_53 (lv_at hl 7 rfl) ?_
      refine lv_aload_n hx hb dX2_write_55 rfl (lv_at hl 3 rfl) ?_
      refine va_get (D := (dC, dI)) (ci := 2) (v := .ref (h 1)) (C := RX2) (T := TX2) (N := 2) hx hb hts inG_X2 hown hK hP 0 rfl rfl 0 (by decide) (hts _ mg_77) (fun _ h9 => h9) rfl dX2_write_56 ?_
      refine lv_iload hx hb dX2_write_59 (lv_at hl 1 rfl) ?_
      refine lv_iload hx hb dX2_write_61 (lv_at hl 0 rfl) ?_
      obtain ⟨r7, σ8, hc, hf⟩ := gs_ob_e hf
      have hF := u_free hD hS hA
      refine u_calli (va_runV (As := [.int (r1 / 3), .int (r1 - r1 / 3 * 3)]) (rest := [.int x4]) ⟨hx, hb, hml, hown, hts⟩ (ct_X1_isLost l dC dI h k T σ6 H.size (r1 / 3) (r1 - r1 / 3 * 3) _ hc) (cwV 2 hts (gd_V mg_179 mg_161 mg_162 mg_34 mg_163) rfl rfl rfl (by decide +kernel) ⟨Nat.le_of_ble_eq_true rfl, Nat.le_of_ble_eq_true rfl⟩) (u_preV zA_g hK hP hD hS hF hZ (va_recv hK hP (ci := 1) (q0 := 1) rfl rfl)) rfl rfl hl.1 rfl (lv_room (Nat.le_of_ble_eq_true rfl)) dX2_write_63 ⟨Nat.le_refl _, Nat.le_refl _⟩) hS hF (fun H locs hP hD hS => ?_)
      obtain ⟨r9, σ10, hc, hf⟩ := gs_ob_e hf
      have hF := u_free hD hS hA
      refine u_calli (va_runS (As := [.int x4, .int r7]) (rest := []) ⟨hx, hb, hml, hown, hts⟩ (ct_X2_keepsOldValue l dC dI h k T σ8 H.size x4 r7 _ hc) (va_cwS 2 hts (gd_S mg_180 mg_181 mg_32 mg_182) rfl rfl rfl (by decide +kernel) ⟨Nat.le_of_ble_eq_true rfl, Nat.le_of_ble_eq_true rfl⟩) (u_preS zA_g hK hP hD hS hF hZ) rfl rfl hl.1 rfl (lv_room (Nat.le_of_ble_eq_true rfl)) dX2_write_66 ⟨Nat.le_refl _, Nat.le_refl _⟩) hS hF (fun H locs hP hD hS => ?_)
      refine lv_if_ne (tgt := 84) hx hb dX2_write_69 (by decide) (fun hq => ?_) (fun hq => ?_)
      · have hf := gs_f hf hq
        refine lv_iload hx hb dX2_write_84 (lv_at hl 7 rfl) ?_
        obtain ⟨r11, σ12, hc, hf⟩ := gs_ob_e hf
        have hF := u_free hD hS hA
        refine u_calli (va_runS (As := [.int x4]) (rest := []) ⟨hx, hb, hml, hown, hts⟩ (ct_X2_isCrash l dC dI h k T σ10 H.size x4 _ hc) (va_cwS 1 hts (gd_S mg_194 mg_195 mg_32 mg_196) rfl rfl rfl (by decide +kernel) ⟨Nat.le_of_ble_eq_true rfl, Nat.le_of_ble_eq_true rfl⟩) (u_preS zA_g hK hP hD hS hF hZ) rfl rfl hl.1 rfl (lv_room (Nat.le_of_ble_eq_true rfl)) dX2_write_86 ⟨Nat.le_refl _, Nat.le_refl _⟩) hS hF (fun H locs hP hD hS => ?_)
        refine lv_if_eq (tgt := 97) hx hb dX2_write_89 (by decide) (fun hq => ?_) (fun hq => ?_)
        · have hf := gs_t hf hq
          refine lv_iconst (v := 0) hx hb dX2_write_97 (by decide) ?_
          exact W.iret (v := 0) hx hb hr (fun t ht hW => u_ri (Option.some.inj hf) ht hW hP hK hD hS) hS.2.2 dX2_write_98
        · have hf := gs_f hf hq
          refine lv_bipush (v := (-4)) hx hb dX2_write_92 (by decide) ?_
          refine lv_goto (tgt := 98) hx hb dX2_write_94 (by decide) ?_
          exact W.iret (v := (-4)) hx hb hr (fun t ht hW => u_ri (Option.some.inj hf) ht hW hP hK hD hS) hS.2.2 dX2_write_98
      · have hf := gs_t hf hq
        refine lv_aload_n hx hb dX2_write_72 rfl (lv_at hl 3 rfl) ?_
        refine va_get (D := (dC, dI)) (ci := 2) (v := .ref (h 1)) (C := RX2) (T := TX2) (N := 2) hx hb hts inG_X2 hown hK hP 0 rfl rfl 0 (by decide) (hts _ mg_77) (fun _ h9 => h9) rfl dX2_write_73 ?_
        refine lv_iload hx hb dX2_write_76 (lv_at hl 1 rfl) ?_
        refine lv_iload hx hb dX2_write_78 (lv_at hl 0 rfl) ?_
        refine lv_iload_n hx hb dX2_write_80 rfl (lv_at hl 6 rfl) ?_
        obtain ⟨r13, σ14, hc, hf⟩ := gs_ob_e hf
        have hF := u_free hD hS hA
        refine u_callv (va_runV (As := [.int (r1 / 3), .int (r1 - r1 / 3 * 3), .int x3]) (rest := []) ⟨hx, hb, hml, hown, hts⟩ (ct_X1_setBlock l dC dI h k T σ10 H.size (r1 / 3) (r1 - r1 / 3 * 3) x3 _ hc) (cwV 3 hts (gd_V mg_183 mg_184 mg_185 mg_34 mg_186) rfl rfl rfl (by decide +kernel) ⟨Nat.le_of_ble_eq_true rfl, Nat.le_of_ble_eq_true rfl⟩) (u_preV zA_g hK hP hD hS hF hZ (va_recv hK hP (ci := 1) (q0 := 1) rfl rfl)) rfl rfl hl.1 rfl (lv_room (Nat.le_of_ble_eq_true rfl)) dX2_write_81 ⟨Nat.le_refl _, Nat.le_refl _⟩) hS hF (fun H locs hP hD hS => ?_)
        refine lv_iload hx hb dX2_write_84 (lv_at hl 7 rfl) ?_
        obtain ⟨r15, σ16, hc, hf⟩ := gs_ob_e hf
        have hF := u_free hD hS hA
        refine u_calli (va_runS (As := [.int x4]) (rest := []) ⟨hx, hb, hml, hown, hts⟩ (ct_X2_isCrash l dC dI h k T σ14 H.size x4 _ hc) (va_cwS 1 hts (gd_S mg_194 mg_195 mg_32 mg_196) rfl rfl rfl (by decide +kernel) ⟨Nat.le_of_ble_eq_true rfl, Nat.le_of_ble_eq_true rfl⟩) (u_preS zA_g hK hP hD hS hF hZ) rfl rfl hl.1 rfl (lv_room (Nat.le_of_ble_eq_true rfl)) dX2_write_86 ⟨Nat.le_refl _, Nat.le_refl _⟩) hS hF (fun H locs hP hD hS => ?_)
        refine lv_if_eq (tgt := 97) hx hb dX2_write_89 (by decide) (fun hq => ?_) (fun hq => ?_)
        · have hf := gs_t hf hq
          refine lv_iconst (v := 0) hx hb dX2_write_97 (by decide) ?_
          exact W.iret (v := 0) hx hb hr (fun t ht hW => u_ri (Option.some.inj hf) ht hW hP hK hD hS) hS.2.2 dX2_write_98
        · have hf := gs_f hf hq
          refine lv_bipush (v := (-4)) hx hb dX2_write_92 (by decide) ?_
          refine lv_goto (tgt := 98) hx hb dX2_write_94 (by decide) ?_
          exact W.iret (v := (-4)) hx hb hr (fun t ht hW => u_ri (Option.some.inj hf) ht hW hP hK hD hS) hS.2.2 dX2_write_98
    · have hf := gs_f hf hq
      refine lv_bipush (v := (-3)) hx hb dX2_write_40 (by decide) ?_
      exact W.iret (v := (-3)) hx hb hr (fun t ht hW => u_ri (Option.some.inj hf) ht hW hP hK hD hS) hS.2.2 dX2_write_42
  · have hf := gs_t hf hq
    refine lv_iconst (v := (-1)) hx hb dX2_write_14 (by decide) ?_
    exact W.iret (v := (-1)) hx hb hr (fun t ht hW => u_ri (Option.some.inj hf) ht hW hP hK hD hS) hS.2.2 dX2_write_15
set_option maxHeartbeats 4000000 in
set_option maxRecDepth 100000 in
theorem ct_X2_read (l : Launch) (dC : Nat → ClassId) (dI : Nat → Nat → Nat) (h : Nat → Nat) (k : Nat → ClassId) (T : Nat) (σ : gS) (sz : Nat) (x1 : Int32) (x2 : Int32) (y : Int64 × gS) (hf : fn_X2_read T x1 x2 σ = some y) : Met l yX2_read wsX2_read ({ frames := 4, cells := 0, slots := 0, locals := 89 }) (va_Pc [.ref (h 0), .int x1, .int x2] (uPre (dC, dI) vwCl (tA k) (wA h k T) zA σ sz)) (va_Ql (fun r u => (r, u) = y) (uAt (dC, dI) vwCl (tA k) (wA h k T) (va_A (wA h k T σ) sz)) (va_A (wA h k T σ) sz)) 0 0 (va_A (wA h k T σ) sz) := by
  refine Met.ofW (cc := cX2_read) (maxL := 6) (ret := (some .long)) (by decide) rfl ?_
  intro p e s m args below meth c s₁ B hml hv
  obtain ⟨rfl, hsz, hP, hK, hD0, hZ⟩ := hv
  have hx := B.exec
  have hb := B.bytes
  have hr := B.returns
  have hts : ∀ w ∈ gG, w.before _ s = true := fun w h => atoms_spec (ws := wsX2_read) B.pre w (List.mem_cons_of_mem _ h)
  have hown : s.vm.findClass RX2 = some m.cls := findClass_of_methodNamed B.named
  have hlocks := B.notSynchronized
  subst hsz
  have hD := hD0.self (sz := s.heap.size)
  generalize hAe : va_A (wA h k T σ) s.heap.size = A at hD hZ ⊢
  have hA : ∀ q : Nat, s.heap.size ≤ q → A q := fun q h => by rw [← hAe]; exact Or.inr h
  have hS : va_S A s.heap s.heap [] := va_S.rf
  obtain ⟨t0, hZ0, hT0, hN0⟩ := id hZ
  have hl := lv_entry ([.ref (h 0), .int x1, .int x2]) (n := 6) (Nat.le_of_ble_eq_true rfl)
  rw [lg_entry_eq]
  generalize (lg_sl ([.ref (h 0), .int x1, .int x2]) ++ List.replicate (6 - (lg_sl ([.ref (h 0), .int x1, .int x2])).length) Slot.unset).toArray = ls at hl ⊢
  have hl : lv_has ls 6 [(0, .ref (h 0)), (1, .int x1), (2, .int x2)] := hl
  rw [fn_X2_read] at hf
  refine lv_aload_n hx hb dX2_read_0 rfl (lv_at hl 0 rfl) ?_
  refine lv_iload_n hx hb dX2_read_1 rfl (lv_at hl 1 rfl) ?_
  refine lv_iload_n hx hb dX2_read_2 rfl (lv_at hl 2 rfl) ?_
  obtain ⟨r1, σ2, hc, hf⟩ := gs_ob_e hf
  have hF := u_free hD hS hA
  refine u_calli (va_runV (As := [.int x1, .int x2]) (rest := []) ⟨hx, hb, hml, hown, hts⟩ (ct_X2_blockAt l dC dI h k T σ s.heap.size x1 x2 _ hc) (cwV 2 hts (gd_V mg_141 mg_142 mg_7 mg_32 mg_143) rfl rfl rfl (by decide +kernel) ⟨Nat.le_of_ble_eq_true rfl, Nat.le_of_ble_eq_true rfl⟩) (u_preV zA_g hK hP hD hS hF hZ (va_recv hK hP (ci := 2) (q0 := 0) rfl rfl)) rfl rfl hl.1 rfl (lv_room (Nat.le_of_ble_eq_true rfl)) dX2_read_3 ⟨Nat.le_refl _, Nat.le_refl _⟩) hS hF (fun H locs hP hD hS => ?_)
  refine lv_istore_n (lv' := [(3, .int r1), (0, .ref (h 0)), (1, .int x1), (2, .int x2)]) hx hb dX2_read_6 rfl hl (by decide) rfl (fun ls hl => ?_)
  refine lv_iload_n hx hb dX2_read_7 rfl (lv_at hl 0 rfl) ?_
  refine lv_iconst (v := (-1)) hx hb dX2_read_8 (by decide) ?_
  refine lv_icmp_ne (tgt := 16) hx hb dX2_read_9 (by decide) (fun hq => ?_) (fun hq => ?_)
  · have hf := gs_f hf hq
    refine lv_iload_n hx hb dX2_read_16 rfl (lv_at hl 0 rfl) ?_
    refine lv_iconst (v := 3) hx hb dX2_read_17 (by decide) ?_
    refine lv_idiv hx hb dX2_read_18 (by decide) ?_
    refine lv_istore (lv' := [(4, .int (r1 / 3)), (3, .int r1), (0, .ref (h 0)), (1, .int x1), (2, .int x2)]) hx hb dX2_read_19 hl (by decide) rfl (fun ls hl => ?_)
    refine lv_iload_n hx hb dX2_read_21 rfl (lv_at hl 1 rfl) ?_
    refine lv_iconst (v := 3) hx hb dX2_read_22 (by decide) ?_
    refine lv_irem hx hb dX2_read_23 (by decide) ?_
    refine lv_istore (lv' := [(5, .int (r1 - r1 / 3 * 3)), (4, .int (r1 / 3)), (3, .int r1), (0, .ref (h 0)), (1, .int x1), (2, .int x2)]) hx hb dX2_read_24 hl (by decide) rfl (fun ls hl => ?_)
    refine lv_aload_n hx hb dX2_read_26 rfl (lv_at hl 3 rfl) ?_
    refine va_get (D := (dC, dI)) (ci := 2) (v := .ref (h 1)) (C := RX2) (T := TX2) (N := 2) hx hb hts inG_X2 hown hK hP 0 rfl rfl 0 (by decide) (hts _ mg_77) (fun _ h9 => h9) rfl dX2_read_27 ?_
    refine lv_iload hx hb dX2_read_30 (lv_at hl 1 rfl) ?_
    refine lv_iload hx hb dX2_read_32 (lv_at hl 0 rfl) ?_
    obtain ⟨r3, σ4, hc, hf⟩ := gs_ob_e hf
    have hF := u_free hD hS hA
    refine u_calli (va_runV (As := [.int (r1 / 3), .int (r1 - r1 / 3 * 3)]) (rest := []) ⟨hx, hb, hml, hown, hts⟩ (ct_X1_isBad l dC dI h k T σ2 H.size (r1 / 3) (r1 - r1 / 3 * 3) _ hc) (cwV 2 hts (gd_V mg_202 mg_157 mg_158 mg_34 mg_159) rfl rfl rfl (by decide +kernel) ⟨Nat.le_of_ble_eq_true rfl, Nat.le_of_ble_eq_true rfl⟩) (u_preV zA_g hK hP hD hS hF hZ (va_recv hK hP (ci := 1) (q0 := 1) rfl rfl)) rfl rfl hl.1 rfl (lv_room (Nat.le_of_ble_eq_true rfl)) dX2_read_34 ⟨Nat.le_refl _, Nat.le_refl _⟩) hS hF (fun H locs hP hD hS => ?_)
    refine lv_if_eq (tgt := 56) hx hb dX2_read_37 (by decide) (fun hq => ?_) (fun hq => ?_)
    · have hf := gs_t hf hq
      refine lv_aload_n hx hb dX2_read_56 rfl (lv_at hl 3 rfl) ?_
      refine va_get (D := (dC, dI)) (ci := 2) (v := .ref (h 1)) (C := RX2) (T := TX2) (N := 2) hx hb hts inG_X2 hown hK hP 0 rfl rfl 0 (by decide) (hts _ mg_77) (fun _ h9 => h9) rfl dX2_read_57 ?_
      refine lv_iload hx hb dX2_read_60 (lv_at hl 1 rfl) ?_
      refine lv_iload hx hb dX2_read_62 (lv_at hl 0 rfl) ?_
      obtain ⟨r5, σ6, hc, hf⟩ := gs_ob_e hf
      have hF := u_free hD hS hA
      refine u_calli (va_runV (As := [.int (r1 / 3), .int (r1 - r1 / 3 * 3)]) (rest := []) ⟨hx, hb, hml, hown, hts⟩ (ct_X1_mend l dC dI h k T σ4 H.size (r1 / 3) (r1 - r1 / 3 * 3) _ hc) (cwV 2 hts (gd_V mg_204 mg_176 mg_177 mg_34 mg_178) rfl rfl rfl (by decide +kernel) ⟨Nat.le_of_ble_eq_true rfl, Nat.le_of_ble_eq_true rfl⟩) (u_preV zA_g hK hP hD hS hF hZ (va_recv hK hP (ci := 1) (q0 := 1) rfl rfl)) rfl rfl hl.1 rfl (lv_room (Nat.le_of_ble_eq_true rfl)) dX2_read_64 ⟨Nat.le_refl _, Nat.le_refl _⟩) hS hF (fun H locs hP hD hS => ?_)
      refine lv_pop hx hb dX2_read_67 rfl ?_
      refine lv_aload_n hx hb dX2_read_68 rfl (lv_at hl 3 rfl) ?_
      refine va_get (D := (dC, dI)) (ci := 2) (v := .ref (h 1)) (C := RX2) (T := TX2) (N := 2) hx hb hts inG_X2 hown hK hP 0 rfl rfl 0 (by decide) (hts _ mg_77) (fun _ h9 => h9) rfl dX2_read_69 ?_
      refine lv_iload hx hb dX2_read_72 (lv_at hl 1 rfl) ?_
      refine lv_iload hx hb dX2_read_74 (lv_at hl 0 rfl) ?_
      obtain ⟨r7, σ8, hc, hf⟩ := gs_ob_e hf
      have hF := u_free hD hS hA
      refine u_calli (va_runV (As := [.int (r1 / 3), .int (r1 - r1 / 3 * 3)]) (rest := []) ⟨hx, hb, hml, hown, hts⟩ (ct_X1_dueWord l dC dI h k T σ6 H.size (r1 / 3) (r1 - r1 / 3 * 3) _ hc) (cwV 2 hts (gd_V mg_205 mg_188 mg_189 mg_34 mg_190) rfl rfl rfl (by decide +kernel) ⟨Nat.le_of_ble_eq_true rfl, Nat.le_of_ble_eq_true rfl⟩) (u_preV zA_g hK hP hD hS hF hZ (va_recv hK hP (ci := 1) (q0 := 1) rfl rfl)) rfl rfl hl.1 rfl (lv_room (Nat.le_of_ble_eq_true rfl)) dX2_read_76 ⟨Nat.le_refl _, Nat.le_refl _⟩) hS hF (fun H locs hP hD hS => ?_)
      refine lv_i2l (v := r7.toInt64) hx hb dX2_read_79 rfl ?_
      exact W.lret (v := r7.toInt64) hx hb hr (fun t ht hW => u_rl (Option.some.inj hf) ht hW hP hK hD hS) hS.2.2 dX2_read_80
    · have hf := gs_f hf hq
      refine lv_aload_n hx hb dX2_read_40 rfl (lv_at hl 3 rfl) ?_
      refine va_get (D := (dC, dI)) (ci := 2) (v := .ref (h 1)) (C := RX2) (T := TX2) (N := 2) hx hb hts inG_X2 hown hK hP 0 rfl rfl 0 (by decide) (hts _ mg_77) (fun _ h9 => h9) rfl dX2_read_41 ?_
      refine lv_iload hx hb dX2_read_44 (lv_at hl 1 rfl) ?_
      obtain ⟨r9, σ10, hc, hf⟩ := gs_ob_e hf
      have hF := u_free hD hS hA
      refine u_calli (va_runV (As := [.int (r1 / 3)]) (rest := []) ⟨hx, hb, hml, hown, hts⟩ (ct_X1_isBroken l dC dI h k T σ4 H.size (r1 / 3) _ hc) (cwV 1 hts (gd_V mg_152 mg_153 mg_154 mg_34 mg_155) rfl rfl rfl (by decide +kernel) ⟨Nat.le_of_ble_eq_true rfl, Nat.le_of_ble_eq_true rfl⟩) (u_preV zA_g hK hP hD hS hF hZ (va_recv hK hP (ci := 1) (q0 := 1) rfl rfl)) rfl rfl hl.1 rfl (lv_room (Nat.le_of_ble_eq_true rfl)) dX2_read_46 ⟨Nat.le_refl _, Nat.le_refl _⟩) hS hF (fun H locs hP hD hS => ?_)
      refine lv_if_eq (tgt := 56) hx hb dX2_read_49 (by decide) (fun hq => ?_) (fun hq => ?_)
      · have hf := gs_t hf hq
        refine lv_aload_n hx hb dX2_read_56 rfl (lv_at hl 3 rfl) ?_
        refine va_get (D := (dC, dI)) (ci := 2) (v := .ref (h 1)) (C := RX2) (T := TX2) (N := 2) hx hb hts inG_X2 hown hK hP 0 rfl rfl 0 (by decide) (hts _ mg_77) (fun _ h9 => h9) rfl dX2_read_57 ?_
        refine lv_iload hx hb dX2_read_60 (lv_at hl 1 rfl) ?_
        refine lv_iload hx hb dX2_read_62 (lv_at hl 0 rfl) ?_
        obtain ⟨r11, σ12, hc, hf⟩ := gs_ob_e hf
        have hF := u_free hD hS hA
        refine u_calli (va_runV (As := [.int (r1 / 3), .int (r1 - r1 / 3 * 3)]) (rest := []) ⟨hx, hb, hml, hown, hts⟩ (ct_X1_mend l dC dI h k T σ10 H.size (r1 / 3) (r1 - r1 / 3 * 3) _ hc) (cwV 2 hts (gd_V mg_204 mg_176 mg_177 mg_34 mg_178) rfl rfl rfl (by decide +kernel) ⟨Nat.le_of_ble_eq_true rfl, Nat.le_of_ble_eq_true rfl⟩) (u_preV zA_g hK hP hD hS hF hZ (va_recv hK hP (ci := 1) (q0 := 1) rfl rfl)) rfl rfl hl.1 rfl (lv_room (Nat.le_of_ble_eq_true rfl)) dX2_read_64 ⟨Nat.le_refl _, Nat.le_refl _⟩) hS hF (fun H locs hP hD hS => ?_)
        refine lv_pop hx hb dX2_read_67 rfl ?_
        refine lv_aload_n hx hb dX2_read_68 rfl (lv_at hl 3 rfl) ?_
        refine va_get (D := (dC, dI)) (ci := 2) (v := .ref (h 1)) (C := RX2) (T := TX2) (N := 2) hx hb hts inG_X2 hown hK hP 0 rfl rfl 0 (by decide) (hts _ mg_77) (fun _ h9 => h9) rfl dX2_read_69 ?_
        refine lv_iload hx hb dX2_read_72 (lv_at hl 1 rfl) ?_
        refine lv_iload hx hb dX2_read_74 (lv_at hl 0 rfl) ?_
        obtain ⟨r13, σ14, hc, hf⟩ := gs_ob_e hf
        have hF := u_free hD hS hA
        refine u_calli (va_runV (As := [.int (r1 / 3), .int (r1 - r1 / 3 * 3)]) (rest := []) ⟨hx, hb, hml, hown, hts⟩ (ct_X1_dueWord l dC dI h k T σ12 H.size (r1 / 3) (r1 - r1 / 3 * 3) _ hc) (cwV 2 hts (gd_V mg_205 mg_188 mg_189 mg_34 mg_190) rfl rfl rfl (by decide +kernel) ⟨Nat.le_of_ble_eq_true rfl, Nat.le_of_ble_eq_true rfl⟩) (u_preV zA_g hK hP hD hS hF hZ (va_recv hK hP (ci := 1) (q0 := 1) rfl rfl)) rfl rfl hl.1 rfl (lv_room (Nat.le_of_ble_eq_true rfl)) dX2_read_76 ⟨Nat.le_refl _, Nat.le_refl _⟩) hS hF (fun H locs hP hD hS => ?_)
        refine lv_i2l (v := r13.toInt64) hx hb dX2_read_79 rfl ?_
        exact W.lret (v := r13.toInt64) hx hb hr (fun t ht hW => u_rl (Option.some.inj hf) ht hW hP hK hD hS) hS.2.2 dX2_read_80
      · have hf := gs_f hf hq
        refine lv_ldc2 hx hb hown (hts _ mg_203) dX2_read_52 ?_
        exact W.lret (v := (-3000000000000)) hx hb hr (fun t ht hW => u_rl (Option.some.inj hf) ht hW hP hK hD hS) hS.2.2 dX2_read_55
  · have hf := gs_t hf hq
    refine lv_ldc2 hx hb hown (hts _ mg_201) dX2_read_12 ?_
    exact W.lret (v := (-1000000000000)) hx hb hr (fun t ht hW => u_rl (Option.some.inj hf) ht hW hP hK hD hS) hS.2.2 dX2_read_15
set_option maxHeartbeats 4000000 in
set_option maxRecDepth 100000 in
theorem ct_X2_isDisk (l : Launch) (dC : Nat → ClassId) (dI : Nat → Nat → Nat) (h : Nat → Nat) (k : Nat → ClassId) (T : Nat) (σ : gS) (sz : Nat) (x0 : Int32) (y : Int32 × gS) (hf : fn_X2_isDisk T x0 σ = some y) : Met l yX2_isDisk wsX2_isDisk ({ frames := 0, cells := 0, slots := 0, locals := 0 }) (va_Pc [.int x0] (uPre (dC, dI) vwCl (tA k) (wA h k T) zA σ sz)) (va_Qi (fun r u => (r, u) = y) (uAt (dC, dI) vwCl (tA k) (wA h k T) (va_A (wA h k T σ) sz)) (va_A (wA h k T σ) sz)) 0 0 (va_A (wA h k T σ) sz) := by
  refine Met.ofW (cc := cX2_isDisk) (maxL := 1) (ret := (some .boolean)) (by decide) rfl ?_
  intro p e s m args below meth c s₁ B hml hv
  obtain ⟨rfl, hsz, hP, hK, hD0, hZ⟩ := hv
  have hx := B.exec
  have hb := B.bytes
  have hr := B.returns
  have hts : ∀ w ∈ gG, w.before _ s = true := fun w h => atoms_spec (ws := wsX2_isDisk) B.pre w (List.mem_cons_of_mem _ h)
  have hown : s.vm.findClass RX2 = some m.cls := findClass_of_methodNamed B.named
  have hlocks := B.notSynchronized
  subst hsz
  have hD := hD0.self (sz := s.heap.size)
  generalize hAe : va_A (wA h k T σ) s.heap.size = A at hD hZ ⊢
  have hA : ∀ q : Nat, s.heap.size ≤ q → A q := fun q h => by rw [← hAe]; exact Or.inr h
  have hS : va_S A s.heap s.heap [] := va_S.rf
  obtain ⟨t0, hZ0, hT0, hN0⟩ := id hZ
  have hl := lv_entry ([.int x0]) (n := 1) (Nat.le_of_ble_eq_true rfl)
  rw [lg_entry_eq]
  generalize (lg_sl ([.int x0]) ++ List.replicate (1 - (lg_sl ([.int x0])).length) Slot.unset).toArray = ls at hl ⊢
  have hl : lv_has ls 1 [(0, .int x0)] := hl
  rw [fn_X2_isDisk] at hf
  refine lv_iload_n hx hb dX2_isDisk_0 rfl (lv_at hl 0 rfl) ?_
  refine lv_if_lt (tgt := 14) hx hb dX2_isDisk_1 (by decide) (fun hq => ?_) (fun hq => ?_)
  · have hf := gs_t hf hq
    refine lv_iconst (v := 0) hx hb dX2_isDisk_14 (by decide) ?_
    exact W.zret (v := 0) (ty := .boolean) hx hb hr rfl (fun t ht hW => u_ri (Option.some.inj hf) ht hW hP hK hD hS) hS.2.2 dX2_isDisk_15
  · have hf := gs_f hf hq
    refine lv_iload_n hx hb dX2_isDisk_4 rfl (lv_at hl 0 rfl) ?_
    refine lv_bipush (v := 7) hx hb dX2_isDisk_5 (by decide) ?_
    refine lv_icmp_ge (tgt := 14) hx hb dX2_isDisk_7 (by decide) (fun hq => ?_) (fun hq => ?_)
    · have hf := gs_t hf hq
      refine lv_iconst (v := 0) hx hb dX2_isDisk_14 (by decide) ?_
      exact W.zret (v := 0) (ty := .boolean) hx hb hr rfl (fun t ht hW => u_ri (Option.some.inj hf) ht hW hP hK hD hS) hS.2.2 dX2_isDisk_15
    · have hf := gs_f hf hq
      refine lv_iconst (v := 1) hx hb dX2_isDisk_10 (by decide) ?_
      refine lv_goto (tgt := 15) hx hb dX2_isDisk_11 (by decide) ?_
      exact W.zret (v := 1) (ty := .boolean) hx hb hr rfl (fun t ht hW => u_ri (Option.some.inj hf) ht hW hP hK hD hS) hS.2.2 dX2_isDisk_15
set_option maxHeartbeats 4000000 in
set_option maxRecDepth 100000 in
theorem ct_X1_isPresent (l : Launch) (dC : Nat → ClassId) (dI : Nat → Nat → Nat) (h : Nat → Nat) (k : Nat → ClassId) (T : Nat) (σ : gS) (sz : Nat) (x1 : Int32) (y : Int32 × gS) (hf : fn_X1_isPresent T x1 σ = some y) : Met l yX1_isPresent wsX1_isPresent ({ frames := 0, cells := 0, slots := 0, locals := 0 }) (va_Pc [.ref (h 1), .int x1] (uPre (dC, dI) vwCl (tA k) (wA h k T) zA σ sz)) (va_Qi (fun r u => (r, u) = y) (uAt (dC, dI) vwCl (tA k) (wA h k T) (va_A (wA h k T σ) sz)) (va_A (wA h k T σ) sz)) 0 0 (va_A (wA h k T σ) sz) := by
  refine Met.ofW (cc := cX1_isPresent) (maxL := 2) (ret := (some .boolean)) (by decide) rfl ?_
  intro p e s m args below meth c s₁ B hml hv
  obtain ⟨rfl, hsz, hP, hK, hD0, hZ⟩ := hv
  have hx := B.exec
  have hb := B.bytes
  have hr := B.returns
  have hts : ∀ w ∈ gG, w.before _ s = true := fun w h => atoms_spec (ws := wsX1_isPresent) B.pre w (List.mem_cons_of_mem _ h)
  have hown : s.vm.findClass RX1 = some m.cls := findClass_of_methodNamed B.named
  have hlocks := B.notSynchronized
  subst hsz
  have hD := hD0.self (sz := s.heap.size)
  generalize hAe : va_A (wA h k T σ) s.heap.size = A at hD hZ ⊢
  have hA : ∀ q : Nat, s.heap.size ≤ q → A q := fun q h => by rw [← hAe]; exact Or.inr h
  have hS : va_S A s.heap s.heap [] := va_S.rf
  obtain ⟨t0, hZ0, hT0, hN0⟩ := id hZ
  have hl := lv_entry ([.ref (h 1), .int x1]) (n := 2) (Nat.le_of_ble_eq_true rfl)
  rw [lg_entry_eq]
  generalize (lg_sl ([.ref (h 1), .int x1]) ++ List.replicate (2 - (lg_sl ([.ref (h 1), .int x1])).length) Slot.unset).toArray = ls at hl ⊢
  have hl : lv_has ls 2 [(0, .ref (h 1)), (1, .int x1)] := hl
  rw [fn_X1_isPresent] at hf
  refine lv_aload_n hx hb dX1_isPresent_0 rfl (lv_at hl 0 rfl) ?_
  refine va_get (D := (dC, dI)) (ci := 1) (v := .ref (h 2)) (C := RX1) (T := TX1) (N := 7) hx hb hts inG_X1 hown hK hP 1 rfl rfl 1 (by decide) (hts _ mg_58) (fun _ h9 => h9) rfl dX1_isPresent_1 ?_
  refine lv_iload_n hx hb dX1_isPresent_4 rfl (lv_at hl 1 rfl) ?_
  obtain ⟨hin, hf⟩ := gs_gd_e hf
  refine va_zald hx hb hK hP 2 0 rfl rfl hin dX1_isPresent_5 ?_
  obtain ⟨hn, hf⟩ := gs_bz_e hf
  exact W.zret (v := σ 0 x1.toNatClampNeg) (ty := .boolean) hx hb hr hn (fun t ht hW => u_ri (Option.some.inj hf) ht hW hP hK hD hS) hS.2.2 dX1_isPresent_6
set_option maxHeartbeats 4000000 in
set_option maxRecDepth 100000 in
theorem ct_X1_spare (l : Launch) (dC : Nat → ClassId) (dI : Nat → Nat → Nat) (h : Nat → Nat) (k : Nat → ClassId) (T : Nat) (σ : gS) (sz : Nat) (x0 : Int32) (y : Int32 × gS) (hf : fn_X1_spare T x0 σ = some y) : Met l yX1_spare wsX1_spare ({ frames := 0, cells := 0, slots := 0, locals := 0 }) (va_Pc [.int x0] (uPre (dC, dI) vwCl (tA k) (wA h k T) zA σ sz)) (va_Qi (fun r u => (r, u) = y) (uAt (dC, dI) vwCl (tA k) (wA h k T) (va_A (wA h k T σ) sz)) (va_A (wA h k T σ) sz)) 0 0 (va_A (wA h k T σ) sz) := by
  refine Met.ofW (cc := cX1_spare) (maxL := 1) (ret := (some .int)) (by decide) rfl ?_
  intro p e s m args below meth c s₁ B hml hv
  obtain ⟨rfl, hsz, hP, hK, hD0, hZ⟩ := hv
  have hx := B.exec
  have hb := B.bytes
  have hr := B.returns
  have hts : ∀ w ∈ gG, w.before _ s = true := fun w h => atoms_spec (ws := wsX1_spare) B.pre w (List.mem_cons_of_mem _ h)
  have hown : s.vm.findClass RX1 = some m.cls := findClass_of_methodNamed B.named
  have hlocks := B.notSynchronized
  subst hsz
  have hD := hD0.self (sz := s.heap.size)
  generalize hAe : va_A (wA h k T σ) s.heap.size = A at hD hZ ⊢
  have hA : ∀ q : Nat, s.heap.size ≤ q → A q := fun q h => by rw [← hAe]; exact Or.inr h
  have hS : va_S A s.heap s.heap [] := va_S.rf
  obtain ⟨t0, hZ0, hT0, hN0⟩ := id hZ
  have hl := lv_entry ([.int x0]) (n := 1) (Nat.le_of_ble_eq_true rfl)
  rw [lg_entry_eq]
  generalize (lg_sl ([.int x0]) ++ List.replicate (1 - (lg_sl ([.int x0])).length) Slot.unset).toArray = ls at hl ⊢
  have hl : lv_has ls 1 [(0, .int x0)] := hl
  rw [fn_X1_spare] at hf
  refine lv_iload_n hx hb dX1_spare_0 rfl (lv_at hl 0 rfl) ?_
  refine lv_bipush (v := 7) hx hb dX1_spare_1 (by decide) ?_
  refine lv_irem hx hb dX1_spare_3 (by decide) ?_
  exact W.iret (v := x0 - x0 / 7 * 7) hx hb hr (fun t ht hW => u_ri (Option.some.inj hf) ht hW hP hK hD hS) hS.2.2 dX1_spare_4
set_option maxHeartbeats 4000000 in
set_option maxRecDepth 100000 in
theorem ct_X1_home (l : Launch) (dC : Nat → ClassId) (dI : Nat → Nat → Nat) (h : Nat → Nat) (k : Nat → ClassId) (T : Nat) (σ : gS) (sz : Nat) (x0 : Int32) (x1 : Int32) (y : Int32 × gS) (hf : fn_X1_home T x0 x1 σ = some y) : Met l yX1_home wsX1_home ({ frames := 0, cells := 0, slots := 0, locals := 0 }) (va_Pc [.int x0, .int x1] (uPre (dC, dI) vwCl (tA k) (wA h k T) zA σ sz)) (va_Qi (fun r u => (r, u) = y) (uAt (dC, dI) vwCl (tA k) (wA h k T) (va_A (wA h k T σ) sz)) (va_A (wA h k T σ) sz)) 0 0 (va_A (wA h k T σ) sz) := by
  refine Met.ofW (cc := cX1_home) (maxL := 2) (ret := (some .int)) (by decide) rfl ?_
  intro p e s m args below meth c s₁ B hml hv
  obtain ⟨rfl, hsz, hP, hK, hD0, hZ⟩ := hv
  have hx := B.exec
  have hb := B.bytes
  have hr := B.returns
  have hts : ∀ w ∈ gG, w.before _ s = true := fun w h => atoms_spec (ws := wsX1_home) B.pre w (List.mem_cons_of_mem _ h)
  have hown : s.vm.findClass RX1 = some m.cls := findClass_of_methodNamed B.named
  have hlocks := B.notSynchronized
  subst hsz
  have hD := hD0.self (sz := s.heap.size)
  generalize hAe : va_A (wA h k T σ) s.heap.size = A at hD hZ ⊢
  have hA : ∀ q : Nat, s.heap.size ≤ q → A q := fun q h => by rw [← hAe]; exact Or.inr h
  have hS : va_S A s.heap s.heap [] := va_S.rf
  obtain ⟨t0, hZ0, hT0, hN0⟩ := id hZ
  have hl := lv_entry ([.int x0, .int x1]) (n := 2) (Nat.le_of_ble_eq_true rfl)
  rw [lg_entry_eq]
  generalize (lg_sl ([.int x0, .int x1]) ++ List.replicate (2 - (lg_sl ([.int x0, .int x1])).length) Slot.unset).toArray = ls at hl ⊢
  have hl : lv_has ls 2 [(0, .int x0), (1, .int x1)] := hl
  rw [fn_X1_home] at hf
  refine lv_iload_n hx hb dX1_home_0 rfl (lv_at hl 0 rfl) ?_
  refine lv_bipush (v := 7) hx hb dX1_home_1 (by decide) ?_
  refine lv_irem hx hb dX1_home_3 (by decide) ?_
  refine va_getsN hx hb hZ0 hS hown (va_Nw.use rfl hN0) (fun _ h9 => h9) dX1_home_4 ?_
  refine lv_iload_n hx hb dX1_home_7 rfl (lv_at hl 1 rfl) ?_
  obtain ⟨hin, hf⟩ := gs_gd_e hf
  refine va_ti hx hb hT0 hS hin (v := .int (tabH x1.toNatClampNeg)) rfl dX1_home_8 ?_
  refine lv_iadd hx hb dX1_home_9 ?_
  refine lv_bipush (v := 7) hx hb dX1_home_10 (by decide) ?_
  refine lv_irem hx hb dX1_home_12 (by decide) ?_
  exact W.iret (v := ((x0 - x0 / 7 * 7) + (tabH x1.toNatClampNeg)) - ((x0 - x0 / 7 * 7) + (tabH x1.toNatClampNeg)) / 7 * 7) hx hb hr (fun t ht hW => u_ri (Option.some.inj hf) ht hW hP hK hD hS) hS.2.2 dX1_home_13
set_option maxHeartbeats 4000000 in
set_option maxRecDepth 100000 in
theorem ct_X1_isOn (l : Launch) (dC : Nat → ClassId) (dI : Nat → Nat → Nat) (h : Nat → Nat) (k : Nat → ClassId) (T : Nat) (σ : gS) (sz : Nat) (x1 : Int32) (x2 : Int32) (x3 : Int32) (y : Int32 × gS) (hf : fn_X1_isOn T x1 x2 x3 σ = some y) : Met l yX1_isOn wsX1_isOn ({ frames := 2, cells := 0, slots := 0, locals := 43 }) (va_Pc [.ref (h 1), .int x1, .int x2, .int x3] (uPre (dC, dI) vwCl (tA k) (wA h k T) zA σ sz)) (va_Qi (fun r u => (r, u) = y) (uAt (dC, dI) vwCl (tA k) (wA h k T) (va_A (wA h k T σ) sz)) (va_A (wA h k T σ) sz)) 0 0 (va_A (wA h k T σ) sz) := by
  refine Met.ofW (cc := cX1_isOn) (maxL := 4) (ret := (some .boolean)) (by decide) rfl ?_
  intro p e s m args below meth c s₁ B hml hv
  obtain ⟨rfl, hsz, hP, hK, hD0, hZ⟩ := hv
  have hx := B.exec
  have hb := B.bytes
  have hr := B.returns
  have hts : ∀ w ∈ gG, w.before _ s = true := fun w h => atoms_spec (ws := wsX1_isOn) B.pre w (List.mem_cons_of_mem _ h)
  have hown : s.vm.findClass RX1 = some m.cls := findClass_of_methodNamed B.named
  have hlocks := B.notSynchronized
  subst hsz
  have hD := hD0.self (sz := s.heap.size)
  generalize hAe : va_A (wA h k T σ) s.heap.size = A at hD hZ ⊢
  have hA : ∀ q : Nat, s.heap.size ≤ q → A q := fun q h => by rw [← hAe]; exact Or.inr h
  have hS : va_S A s.heap s.heap [] := va_S.rf
  obtain ⟨t0, hZ0, hT0, hN0⟩ := id hZ
  have hl := lv_entry ([.ref (h 1), .int x1, .int x2, .int x3]) (n := 4) (Nat.le_of_ble_eq_true rfl)
  rw [lg_entry_eq]
  generalize (lg_sl ([.ref (h 1), .int x1, .int x2, .int x3]) ++ List.replicate (4 - (lg_sl ([.ref (h 1), .int x1, .int x2, .int x3])).length) Slot.unset).toArray = ls at hl ⊢
  have hl : lv_has ls 4 [(0, .ref (h 1)), (1, .int x1), (2, .int x2), (3, .int x3)] := hl
  rw [fn_X1_isOn] at hf
  refine lv_aload_n hx hb dX1_isOn_0 rfl (lv_at hl 0 rfl) ?_
  refine lv_iload_n hx hb dX1_isOn_1 rfl (lv_at hl 1 rfl) ?_
  refine lv_iload_n hx hb dX1_isOn_2 rfl (lv_at hl 2 rfl) ?_
  obtain ⟨r1, σ2, hc, hf⟩ := gs_ob_e hf
  have hF := u_free hD hS hA
  refine u_calli (va_runV (As := [.int x1, .int x2]) (rest := []) ⟨hx, hb, hml, hown, hts⟩ (ct_X1_isLost l dC dI h k T σ s.heap.size x1 x2 _ hc) (cwV 2 hts (gd_V mg_160 mg_161 mg_162 mg_34 mg_163) rfl rfl rfl (by decide +kernel) ⟨Nat.le_of_ble_eq_true rfl, Nat.le_of_ble_eq_true rfl⟩) (u_preV zA_g hK hP hD hS hF hZ (va_recv hK hP (ci := 1) (q0 := 1) rfl rfl)) rfl rfl hl.1 rfl (lv_room (Nat.le_of_ble_eq_true rfl)) dX1_isOn_3 ⟨Nat.le_refl _, Nat.le_refl _⟩) hS hF (fun H locs hP hD hS => ?_)
  refine lv_if_eq (tgt := 11) hx hb dX1_isOn_6 (by decide) (fun hq => ?_) (fun hq => ?_)
  · have hf := gs_t hf hq
    refine lv_iload_n hx hb dX1_isOn_11 rfl (lv_at hl 3 rfl) ?_
    refine lv_aload_n hx hb dX1_isOn_12 rfl (lv_at hl 0 rfl) ?_
    refine va_get (D := (dC, dI)) (ci := 1) (v := .ref (h 6)) (C := RX1) (T := TX1) (N := 7) hx hb hts inG_X1 hown hK hP 1 rfl rfl 5 (by decide) (hts _ mg_62) (fun _ h9 => h9) rfl dX1_isOn_13 ?_
    refine lv_iload_n hx hb dX1_isOn_16 rfl (lv_at hl 1 rfl) ?_
    obtain ⟨hin, hf⟩ := gs_gd_e hf
    refine va_iald hx hb hK hP 6 4 rfl rfl hin dX1_isOn_17 ?_
    refine lv_iload_n hx hb dX1_isOn_18 rfl (lv_at hl 2 rfl) ?_
    refine lv_icmp_ne (tgt := 29) hx hb dX1_isOn_19 (by decide) (fun hq => ?_) (fun hq => ?_)
    · have hf := gs_f hf hq
      refine lv_iload_n hx hb dX1_isOn_29 rfl (lv_at hl 1 rfl) ?_
      refine lv_iload_n hx hb dX1_isOn_30 rfl (lv_at hl 2 rfl) ?_
      obtain ⟨r3, σ4, hc, hf⟩ := gs_ob_e hf
      have hF := u_free hD hS hA
      refine u_calli (va_runS (As := [.int x1, .int x2]) (rest := [.int x3]) ⟨hx, hb, hml, hown, hts⟩ (ct_X1_home l dC dI h k T σ2 H.size x1 x2 _ hc) (va_cwS 2 hts (gd_S mg_227 mg_228 mg_34 mg_229) rfl rfl rfl (by decide +kernel) ⟨Nat.le_of_ble_eq_true rfl, Nat.le_of_ble_eq_true rfl⟩) (u_preS zA_g hK hP hD hS hF hZ) rfl rfl hl.1 rfl (lv_room (Nat.le_of_ble_eq_true rfl)) dX1_isOn_31 ⟨Nat.le_refl _, Nat.le_refl _⟩) hS hF (fun H locs hP hD hS => ?_)
      refine lv_icmp_ne (tgt := 41) hx hb dX1_isOn_34 (by decide) (fun hq => ?_) (fun hq => ?_)
      · have hf := gs_f hf hq
        refine lv_iconst (v := 0) hx hb dX1_isOn_41 (by decide) ?_
        exact W.zret (v := 0) (ty := .boolean) hx hb hr rfl (fun t ht hW => u_ri (Option.some.inj hf) ht hW hP hK hD hS) hS.2.2 dX1_isOn_42
      · have hf := gs_t hf hq
        refine lv_iconst (v := 1) hx hb dX1_isOn_37 (by decide) ?_
        refine lv_goto (tgt := 42) hx hb dX1_isOn_38 (by decide) ?_
        exact W.zret (v := 1) (ty := .boolean) hx hb hr rfl (fun t ht hW => u_ri (Option.some.inj hf) ht hW hP hK hD hS) hS.2.2 dX1_isOn_42
    · have hf := gs_t hf hq
      refine lv_iload_n hx hb dX1_isOn_22 rfl (lv_at hl 1 rfl) ?_
      obtain ⟨r5, σ6, hc, hf⟩ := gs_ob_e hf
      have hF := u_free hD hS hA
      refine u_calli (va_runS (As := [.int x1]) (rest := [.int x3]) ⟨hx, hb, hml, hown, hts⟩ (ct_X1_spare l dC dI h k T σ2 H.size x1 _ hc) (va_cwS 1 hts (gd_S mg_224 mg_225 mg_34 mg_226) rfl rfl rfl (by decide +kernel) ⟨Nat.le_of_ble_eq_true rfl, Nat.le_of_ble_eq_true rfl⟩) (u_preS zA_g hK hP hD hS hF hZ) rfl rfl hl.1 rfl (lv_room (Nat.le_of_ble_eq_true rfl)) dX1_isOn_23 ⟨Nat.le_refl _, Nat.le_refl _⟩) hS hF (fun H locs hP hD hS => ?_)
      refine lv_goto (tgt := 34) hx hb dX1_isOn_26 (by decide) ?_
      refine lv_icmp_ne (tgt := 41) hx hb dX1_isOn_34 (by decide) (fun hq => ?_) (fun hq => ?_)
      · have hf := gs_f hf hq
        refine lv_iconst (v := 0) hx hb dX1_isOn_41 (by decide) ?_
        exact W.zret (v := 0) (ty := .boolean) hx hb hr rfl (fun t ht hW => u_ri (Option.some.inj hf) ht hW hP hK hD hS) hS.2.2 dX1_isOn_42
      · have hf := gs_t hf hq
        refine lv_iconst (v := 1) hx hb dX1_isOn_37 (by decide) ?_
        refine lv_goto (tgt := 42) hx hb dX1_isOn_38 (by decide) ?_
        exact W.zret (v := 1) (ty := .boolean) hx hb hr rfl (fun t ht hW => u_ri (Option.some.inj hf) ht hW hP hK hD hS) hS.2.2 dX1_isOn_42
  · have hf := gs_f hf hq
    refine lv_iconst (v := 0) hx hb dX1_isOn_9 (by decide) ?_
    exact W.zret (v := 0) (ty := .boolean) hx hb hr rfl (fun t ht hW => u_ri (Option.some.inj hf) ht hW hP hK hD hS) hS.2.2 dX1_isOn_10
set_option maxHeartbeats 4000000 in
set_option maxRecDepth 100000 in
theorem ct_X1_lose (l : Launch) (dC : Nat → ClassId) (dI : Nat → Nat → Nat) (h : Nat → Nat) (k : Nat → ClassId) (T : Nat) (σ : gS) (sz : Nat) (x1 : Int32) (x2 : Int32) (y : Int32 × gS) (hf : fn_X1_lose T x1 x2 σ = some y) : Met l yX1_lose wsX1_lose ({ frames := 1, cells := 0, slots := 0, locals := 21 }) (va_Pc [.ref (h 1), .int x1, .int x2] (uPre (dC, dI) vwCl (tA k) (wA h k T) zA σ sz)) (va_Qv (fun u => u = y.2) (uAt (dC, dI) vwCl (tA k) (wA h k T) (va_A (wA h k T σ) sz)) (va_A (wA h k T σ) sz)) 0 0 (va_A (wA h k T σ) sz) := by
  refine Met.ofW (cc := cX1_lose) (maxL := 3) (ret := none) (by decide) rfl ?_
  intro p e s m args below meth c s₁ B hml hv
  obtain ⟨rfl, hsz, hP, hK, hD0, hZ⟩ := hv
  have hx := B.exec
  have hb := B.bytes
  have hr := B.returns
  have hts : ∀ w ∈ gG, w.before _ s = true := fun w h => atoms_spec (ws := wsX1_lose) B.pre w (List.mem_cons_of_mem _ h)
  have hown : s.vm.findClass RX1 = some m.cls := findClass_of_methodNamed B.named
  have hlocks := B.notSynchronized
  subst hsz
  have hD := hD0.self (sz := s.heap.size)
  generalize hAe : va_A (wA h k T σ) s.heap.size = A at hD hZ ⊢
  have hA : ∀ q : Nat, s.heap.size ≤ q → A q := fun q h => by rw [← hAe]; exact Or.inr h
  have hS : va_S A s.heap s.heap [] := va_S.rf
  obtain ⟨t0, hZ0, hT0, hN0⟩ := id hZ
  have hl := lv_entry ([.ref (h 1), .int x1, .int x2]) (n := 3) (Nat.le_of_ble_eq_true rfl)
  rw [lg_entry_eq]
  generalize (lg_sl ([.ref (h 1), .int x1, .int x2]) ++ List.replicate (3 - (lg_sl ([.ref (h 1), .int x1, .int x2])).length) Slot.unset).toArray = ls at hl ⊢
  have hl : lv_has ls 3 [(0, .ref (h 1)), (1, .int x1), (2, .int x2)] := hl
  rw [fn_X1_lose] at hf
  refine lv_aload_n hx hb dX1_lose_0 rfl (lv_at hl 0 rfl) ?_
  refine va_get (D := (dC, dI)) (ci := 1) (v := .ref (h 5)) (C := RX1) (T := TX1) (N := 7) hx hb hts inG_X1 hown hK hP 1 rfl rfl 4 (by decide) (hts _ mg_61) (fun _ h9 => h9) rfl dX1_lose_1 ?_
  refine lv_iload_n hx hb dX1_lose_4 rfl (lv_at hl 1 rfl) ?_
  refine lv_iload_n hx hb dX1_lose_5 rfl (lv_at hl 2 rfl) ?_
  obtain ⟨r1, σ2, hc, hf⟩ := gs_ob_e hf
  have hF := u_free hD hS hA
  refine u_calli (va_runS (As := [.int x1, .int x2]) (rest := [.ref (h 5)]) ⟨hx, hb, hml, hown, hts⟩ (ct_X1_place l dC dI h k T σ s.heap.size x1 x2 _ hc) (va_cwS 2 hts (gd_S mg_164 mg_165 mg_34 mg_166) rfl rfl rfl (by decide +kernel) ⟨Nat.le_of_ble_eq_true rfl, Nat.le_of_ble_eq_true rfl⟩) (u_preS zA_g hK hP hD hS hF hZ) rfl rfl hl.1 rfl (lv_room (Nat.le_of_ble_eq_true rfl)) dX1_lose_6 ⟨Nat.le_refl _, Nat.le_refl _⟩) hS hF (fun H locs hP hD hS => ?_)
  refine lv_iconst (v := 1) hx hb dX1_lose_9 (by decide) ?_
  obtain ⟨hin, hf⟩ := gs_gd_e hf
  refine va_zast hx hb hK hP hD hS 5 3 rfl rfl hin dX1_lose_10 (fun H locs hP hD hS => ?_)
  obtain ⟨σ3, es, hf⟩ := gs_lt_e hf
  have hP : va_P (dC, dI) vwCl (wA h k T σ3) H := by rw [es]; exact hP
  have hD : va_D A (wA h k T σ3) := by rw [es]; exact hD
  clear es
  refine lv_aload_n hx hb dX1_lose_11 rfl (lv_at hl 0 rfl) ?_
  refine va_get (D := (dC, dI)) (ci := 1) (v := .ref (h 6)) (C := RX1) (T := TX1) (N := 7) hx hb hts inG_X1 hown hK hP 1 rfl rfl 5 (by decide) (hts _ mg_62) (fun _ h9 => h9) rfl dX1_lose_12 ?_
  refine lv_iload_n hx hb dX1_lose_15 rfl (lv_at hl 1 rfl) ?_
  obtain ⟨hin, hf⟩ := gs_gd_e hf
  refine va_iald hx hb hK hP 6 4 rfl rfl hin dX1_lose_16 ?_
  refine lv_iload_n hx hb dX1_lose_17 rfl (lv_at hl 2 rfl) ?_
  refine lv_icmp_ne (tgt := 28) hx hb dX1_lose_18 (by decide) (fun hq => ?_) (fun hq => ?_)
  · have hf := gs_f hf hq
    exact W.vret hx hb hr (fun t ht hW => u_rv (Option.some.inj hf) ht hW hP hK hD hS) hS.2.2 dX1_lose_28
  · have hf := gs_t hf hq
    refine lv_aload_n hx hb dX1_lose_21 rfl (lv_at hl 0 rfl) ?_
    refine va_get (D := (dC, dI)) (ci := 1) (v := .ref (h 6)) (C := RX1) (T := TX1) (N := 7) hx hb hts inG_X1 hown hK hP 1 rfl rfl 5 (by decide) (hts _ mg_62) (fun _ h9 => h9) rfl dX1_lose_22 ?_
    refine lv_iload_n hx hb dX1_lose_25 rfl (lv_at hl 1 rfl) ?_
    refine lv_iconst (v := 4) hx hb dX1_lose_26 (by decide) ?_
    obtain ⟨hin, hf⟩ := gs_gd_e hf
    refine va_iast hx hb hK hP hD hS 6 4 rfl rfl hin dX1_lose_27 (fun H locs hP hD hS => ?_)
    obtain ⟨σ4, es, hf⟩ := gs_lt_e hf
    have hP : va_P (dC, dI) vwCl (wA h k T σ4) H := by rw [es]; exact hP
    have hD : va_D A (wA h k T σ4) := by rw [es]; exact hD
    clear es
    exact W.vret hx hb hr (fun t ht hW => u_rv (Option.some.inj hf) ht hW hP hK hD hS) hS.2.2 dX1_lose_28
set_option maxHeartbeats 4000000 in
set_option maxRecDepth 100000 in
theorem ct_X1_takeOut (l : Launch) (dC : Nat → ClassId) (dI : Nat → Nat → Nat) (h : Nat → Nat) (k : Nat → ClassId) (T : Nat) (σ : gS) (sz : Nat) (x1 : Int32) (y : Int32 × gS) (hf : fn_X1_takeOut T x1 σ = some y) : Met l yX1_takeOut wsX1_takeOut ({ frames := 3, cells := 0, slots := 0, locals := 66 }) (va_Pc [.ref (h 1), .int x1] (uPre (dC, dI) vwCl (tA k) (wA h k T) zA σ sz)) (va_Qi (fun r u => (r, u) = y) (uAt (dC, dI) vwCl (tA k) (wA h k T) (va_A (wA h k T σ) sz)) (va_A (wA h k T σ) sz)) 0 0 (va_A (wA h k T σ) sz) := by
  refine Met.ofW (cc := cX1_takeOut) (maxL := 5) (ret := (some .int)) (by decide) rfl ?_
  intro p e s m args below meth c s₁ B hml hv
  obtain ⟨rfl, hsz, hP, hK, hD0, hZ⟩ := hv
  have hx := B.exec
  have hb := B.bytes
  have hr := B.returns
  have hts : ∀ w ∈ gG, w.before _ s = true := fun w h => atoms_spec (ws := wsX1_takeOut) B.pre w (List.mem_cons_of_mem _ h)
  have hown : s.vm.findClass RX1 = some m.cls := findClass_of_methodNamed B.named
  have hlocks := B.notSynchronized
  subst hsz
  have hD := hD0.self (sz := s.heap.size)
  generalize hAe : va_A (wA h k T σ) s.heap.size = A at hD hZ ⊢
  have hA : ∀ q : Nat, s.heap.size ≤ q → A q := fun q h => by rw [← hAe]; exact Or.inr h
  have hS : va_S A s.heap s.heap [] := va_S.rf
  obtain ⟨t0, hZ0, hT0, hN0⟩ := id hZ
  have L22 : ∀ (K11 : Int32 → Int32 → Int32 → gS → Option (Int32 × gS)), (∀ (z1 : Int32) (z2 : Int32) (z3 : Int32) (σ : gS) (H : Heap) (locs : List Loc) (ls : Array Slot), K11 z1 z2 z3 σ = some y → va_P (dC, dI) vwCl (wA h k T σ) H → va_D A (wA h k T σ) → va_S A s.heap H locs → lv_has ls 5 [(0, .ref (h 1)), (1, .int z1), (2, .int z2), (3, .int z3)] → W p l e ({ frames := 3, cells := 0, slots := 0, locals := 66 }) s m ([.ref (h 1), .int x1] : List Value).toArray below meth c H locs 0 0 (MQ below (va_Qi (fun r u => (r, u) = y) (uAt (dC, dI) vwCl (tA k) (wA h k T) A) A) ([.ref (h 1), .int x1] : List Value).toArray s 0 0 A) (F0 m 11 ls [])) → ∀ (n : Nat), ∀ (z1 : Int32) (z2 : Int32) (z3 : Int32) (z4 : Int32) (σ : gS) (H : Heap) (locs : List Loc) (ls : Array Slot), fn_X1_takeOut_L22 T K11 n z1 z2 z3 z4 σ = some y → va_P (dC, dI) vwCl (wA h k T σ) H → va_D A (wA h k T σ) → va_S A s.heap H locs → lv_has ls 5 [(0, .ref (h 1)), (1, .int z1), (2, .int z2), (3, .int z3), (4, .int z4)] → W p l e ({ frames := 3, cells := 0, slots := 0, locals := 66 }) s m ([.ref (h 1), .int x1] : List Value).toArray below meth c H locs 0 0 (MQ below (va_Qi (fun r u => (r, u) = y) (uAt (dC, dI) vwCl (tA k) (wA h k T) A) A) ([.ref (h 1), .int x1] : List Value).toArray s 0 0 A) (F0 m 22 ls []) := by
    intro K11 hK11
    intro n
    induction n with
    | zero => intro z1 z2 z3 z4 σ H locs ls hf; exact absurd hf (by rw [fn_X1_takeOut_L22]; exact nofun)
    | succ n ih =>
      intro z1 z2 z3 z4 σ H locs ls hf hP hD hS hl
      rw [fn_X1_takeOut_L22] at hf
      refine lv_iload hx hb dX1_takeOut_22 (lv_at hl 4 rfl) ?_
      refine lv_iconst (v := 4) hx hb dX1_takeOut_24 (by decide) ?_
      refine lv_icmp_ge (tgt := 55) hx hb dX1_takeOut_25 (by decide) (fun hq => ?_) (fun hq => ?_)
      · have hf := gs_t hf hq
        refine lv_iinc (v := z3 + 1) (lv' := [(3, .int (z3 + 1)), (0, .ref (h 1)), (1, .int z1), (2, .int z2), (4, .int z4)]) hx hb dX1_takeOut_55 hl (k := 3) rfl rfl (by decide) rfl (fun ls hl => ?_)
        refine lv_goto (tgt := 11) hx hb dX1_takeOut_58 (by decide) ?_
        exact hK11 z1 z2 (z3 + 1) σ _ _ _ hf hP hD hS (lv_sub hl [1, 2, 3, 0] rfl)
      · have hf := gs_f hf hq
        refine lv_aload_n hx hb dX1_takeOut_28 rfl (lv_at hl 0 rfl) ?_
        refine lv_iload_n hx hb dX1_takeOut_29 rfl (lv_at hl 3 rfl) ?_
        refine lv_iload hx hb dX1_takeOut_30 (lv_at hl 4 rfl) ?_
        refine lv_iload_n hx hb dX1_takeOut_32 rfl (lv_at hl 1 rfl) ?_
        obtain ⟨r2, σ3, hc, hf⟩ := gs_ob_e hf
        have hF := u_free hD hS hA
        refine u_calli (va_runV (As := [.int z3, .int z4, .int z1]) (rest := []) ⟨hx, hb, hml, hown, hts⟩ (ct_X1_isOn l dC dI h k T σ H.size z3 z4 z1 _ hc) (cwV 3 hts (gd_V mg_221 mg_222 mg_9 mg_34 mg_223) rfl rfl rfl (by decide +kernel) ⟨Nat.le_of_ble_eq_true rfl, Nat.le_of_ble_eq_true rfl⟩) (u_preV zA_g hK hP hD hS hF hZ (va_recv hK hP (ci := 1) (q0 := 1) rfl rfl)) rfl rfl hl.1 rfl (lv_room (Nat.le_of_ble_eq_true rfl)) dX1_takeOut_33 ⟨Nat.le_refl _, Nat.le_refl _⟩) hS hF (fun H locs hP hD hS => ?_)
        refine lv_if_eq (tgt := 49) hx hb dX1_takeOut_36 (by decide) (fun hq => ?_) (fun hq => ?_)
        · have hf := gs_t hf hq
          refine lv_iinc (v := z4 + 1) (lv' := [(4, .int (z4 + 1)), (0, .ref (h 1)), (1, .int z1), (2, .int z2), (3, .int z3)]) hx hb dX1_takeOut_49 hl (k := 4) rfl rfl (by decide) rfl (fun ls hl => ?_)
          refine lv_goto (tgt := 22) hx hb dX1_takeOut_52 (by decide) ?_
          exact ih z1 z2 z3 (z4 + 1) σ3 _ _ _ hf hP hD hS (lv_sub hl [1, 2, 3, 4, 0] rfl)
        · have hf := gs_f hf hq
          refine lv_aload_n hx hb dX1_takeOut_39 rfl (lv_at hl 0 rfl) ?_
          refine lv_iload_n hx hb dX1_takeOut_40 rfl (lv_at hl 3 rfl) ?_
          refine lv_iload hx hb dX1_takeOut_41 (lv_at hl 4 rfl) ?_
          obtain ⟨r4, σ5, hc, hf⟩ := gs_ob_e hf
          have hF := u_free hD hS hA
          refine u_callv (va_runV (As := [.int z3, .int z4]) (rest := []) ⟨hx, hb, hml, hown, hts⟩ (ct_X1_lose l dC dI h k T σ3 H.size z3 z4 _ hc) (cwV 2 hts (gd_V mg_230 mg_231 mg_10 mg_34 mg_232) rfl rfl rfl (by decide +kernel) ⟨Nat.le_of_ble_eq_true rfl, Nat.le_of_ble_eq_true rfl⟩) (u_preV zA_g hK hP hD hS hF hZ (va_recv hK hP (ci := 1) (q0 := 1) rfl rfl)) rfl rfl hl.1 rfl (lv_room (Nat.le_of_ble_eq_true rfl)) dX1_takeOut_43 ⟨Nat.le_refl _, Nat.le_refl _⟩) hS hF (fun H locs hP hD hS => ?_)
          refine lv_iinc (v := z2 + 1) (lv' := [(2, .int (z2 + 1)), (0, .ref (h 1)), (1, .int z1), (3, .int z3), (4, .int z4)]) hx hb dX1_takeOut_46 hl (k := 2) rfl rfl (by decide) rfl (fun ls hl => ?_)
          refine lv_iinc (v := z4 + 1) (lv' := [(4, .int (z4 + 1)), (2, .int (z2 + 1)), (0, .ref (h 1)), (1, .int z1), (3, .int z3)]) hx hb dX1_takeOut_49 hl (k := 4) rfl rfl (by decide) rfl (fun ls hl => ?_)
          refine lv_goto (tgt := 22) hx hb dX1_takeOut_52 (by decide) ?_
          exact ih z1 (z2 + 1) z3 (z4 + 1) σ5 _ _ _ hf hP hD hS (lv_sub hl [2, 3, 1, 4, 0] rfl)
  have L11 : ∀ (n : Nat), ∀ (z1 : Int32) (z2 : Int32) (z3 : Int32) (σ : gS) (H : Heap) (locs : List Loc) (ls : Array Slot), fn_X1_takeOut_L11 T n z1 z2 z3 σ = some y → va_P (dC, dI) vwCl (wA h k T σ) H → va_D A (wA h k T σ) → va_S A s.heap H locs → lv_has ls 5 [(0, .ref (h 1)), (1, .int z1), (2, .int z2), (3, .int z3)] → W p l e ({ frames := 3, cells := 0, slots := 0, locals := 66 }) s m ([.ref (h 1), .int x1] : List Value).toArray below meth c H locs 0 0 (MQ below (va_Qi (fun r u => (r, u) = y) (uAt (dC, dI) vwCl (tA k) (wA h k T) A) A) ([.ref (h 1), .int x1] : List Value).toArray s 0 0 A) (F0 m 11 ls []) := by
    intro n
    induction n with
    | zero => intro z1 z2 z3 σ H locs ls hf; exact absurd hf (by rw [fn_X1_takeOut_L11]; exact nofun)
    | succ n ih =>
      intro z1 z2 z3 σ H locs ls hf hP hD hS hl
      rw [fn_X1_takeOut_L11] at hf
      refine lv_iload_n hx hb dX1_takeOut_11 rfl (lv_at hl 3 rfl) ?_
      refine lv_aload_n hx hb dX1_takeOut_12 rfl (lv_at hl 0 rfl) ?_
      refine va_get (D := (dC, dI)) (ci := 1) (v := .int (σ 6 0)) (C := RX1) (T := TX1) (N := 7) hx hb hts inG_X1 hown hK hP 1 rfl rfl 0 (by decide) (hts _ mg_57) (fun _ h9 => h9) rfl dX1_takeOut_13 ?_
      refine lv_icmp_ge (tgt := 61) hx hb dX1_takeOut_16 (by decide) (fun hq => ?_) (fun hq => ?_)
      · have hf := gs_t hf hq
        refine lv_iload_n hx hb dX1_takeOut_61 rfl (lv_at hl 2 rfl) ?_
        exact W.iret (v := z2) hx hb hr (fun t ht hW => u_ri (Option.some.inj hf) ht hW hP hK hD hS) hS.2.2 dX1_takeOut_62
      · have hf := gs_f hf hq
        refine lv_iconst (v := 0) hx hb dX1_takeOut_19 (by decide) ?_
        refine lv_istore (lv' := [(4, .int 0), (0, .ref (h 1)), (1, .int z1), (2, .int z2), (3, .int z3)]) hx hb dX1_takeOut_20 hl (by decide) rfl (fun ls hl => ?_)
        exact L22 (fn_X1_takeOut_L11 T n) ih gs_fu z1 z2 z3 0 σ _ _ _ hf hP hD hS (lv_sub hl [1, 2, 3, 4, 0] rfl)
  have hl := lv_entry ([.ref (h 1), .int x1]) (n := 5) (Nat.le_of_ble_eq_true rfl)
  rw [lg_entry_eq]
  generalize (lg_sl ([.ref (h 1), .int x1]) ++ List.replicate (5 - (lg_sl ([.ref (h 1), .int x1])).length) Slot.unset).toArray = ls at hl ⊢
  have hl : lv_has ls 5 [(0, .ref (h 1)), (1, .int x1)] := hl
  rw [fn_X1_takeOut] at hf
  refine lv_aload_n hx hb dX1_takeOut_0 rfl (lv_at hl 0 rfl) ?_
  refine va_get (D := (dC, dI)) (ci := 1) (v := .ref (h 2)) (C := RX1) (T := TX1) (N := 7) hx hb hts inG_X1 hown hK hP 1 rfl rfl 1 (by decide) (hts _ mg_58) (fun _ h9 => h9) rfl dX1_takeOut_1 ?_
  refine lv_iload_n hx hb dX1_takeOut_4 rfl (lv_at hl 1 rfl) ?_
  refine lv_iconst (v := 0) hx hb dX1_takeOut_5 (by decide) ?_
  obtain ⟨hin, hf⟩ := gs_gd_e hf
  refine va_zast hx hb hK hP hD hS 2 0 rfl rfl hin dX1_takeOut_6 (fun H locs hP hD hS => ?_)
  obtain ⟨σ1, es, hf⟩ := gs_lt_e hf
  have hP : va_P (dC, dI) vwCl (wA h k T σ1) H := by rw [es]; exact hP
  have hD : va_D A (wA h k T σ1) := by rw [es]; exact hD
  clear es
  refine lv_iconst (v := 0) hx hb dX1_takeOut_7 (by decide) ?_
  refine lv_istore_n (lv' := [(2, .int 0), (0, .ref (h 1)), (1, .int x1)]) hx hb dX1_takeOut_8 rfl hl (by decide) rfl (fun ls hl => ?_)
  refine lv_iconst (v := 0) hx hb dX1_takeOut_9 (by decide) ?_
  refine lv_istore_n (lv' := [(3, .int 0), (2, .int 0), (0, .ref (h 1)), (1, .int x1)]) hx hb dX1_takeOut_10 rfl hl (by decide) rfl (fun ls hl => ?_)
  exact L11 gs_fu x1 0 0 σ1 _ _ _ hf hP hD hS (lv_sub hl [2, 3, 1, 0] rfl)
set_option maxHeartbeats 4000000 in
set_option maxRecDepth 100000 in
theorem ct_X2_fail (l : Launch) (dC : Nat → ClassId) (dI : Nat → Nat → Nat) (h : Nat → Nat) (k : Nat → ClassId) (T : Nat) (σ : gS) (sz : Nat) (x1 : Int32) (y : Int32 × gS) (hf : fn_X2_fail T x1 σ = some y) : Met l yX2_fail wsX2_fail ({ frames := 4, cells := 0, slots := 0, locals := 90 }) (va_Pc [.ref (h 0), .int x1] (uPre (dC, dI) vwCl (tA k) (wA h k T) zA σ sz)) (va_Qi (fun r u => (r, u) = y) (uAt (dC, dI) vwCl (tA k) (wA h k T) (va_A (wA h k T σ) sz)) (va_A (wA h k T σ) sz)) 0 0 (va_A (wA h k T σ) sz) := by
  refine Met.ofW (cc := cX2_fail) (maxL := 2) (ret := (some .int)) (by decide) rfl ?_
  intro p e s m args below meth c s₁ B hml hv
  obtain ⟨rfl, hsz, hP, hK, hD0, hZ⟩ := hv
  have hx := B.exec
  have hb := B.bytes
  have hr := B.returns
  have hts : ∀ w ∈ gG, w.before _ s = true := fun w h => atoms_spec (ws := wsX2_fail) B.pre w (List.mem_cons_of_mem _ h)
  have hown : s.vm.findClass RX2 = some m.cls := findClass_of_methodNamed B.named
  have hlocks := B.notSynchronized
  subst hsz
  have hD := hD0.self (sz := s.heap.size)
  generalize hAe : va_A (wA h k T σ) s.heap.size = A at hD hZ ⊢
  have hA : ∀ q : Nat, s.heap.size ≤ q → A q := fun q h => by rw [← hAe]; exact Or.inr h
  have hS : va_S A s.heap s.heap [] := va_S.rf
  obtain ⟨t0, hZ0, hT0, hN0⟩ := id hZ
  have hl := lv_entry ([.ref (h 0), .int x1]) (n := 2) (Nat.le_of_ble_eq_true rfl)
  rw [lg_entry_eq]
  generalize (lg_sl ([.ref (h 0), .int x1]) ++ List.replicate (2 - (lg_sl ([.ref (h 0), .int x1])).length) Slot.unset).toArray = ls at hl ⊢
  have hl : lv_has ls 2 [(0, .ref (h 0)), (1, .int x1)] := hl
  rw [fn_X2_fail] at hf
  refine lv_iload_n hx hb dX2_fail_0 rfl (lv_at hl 1 rfl) ?_
  obtain ⟨r1, σ2, hc, hf⟩ := gs_ob_e hf
  have hF := u_free hD hS hA
  refine u_calli (va_runS (As := [.int x1]) (rest := []) ⟨hx, hb, hml, hown, hts⟩ (ct_X2_isDisk l dC dI h k T σ s.heap.size x1 _ hc) (va_cwS 1 hts (gd_S mg_210 mg_211 mg_32 mg_212) rfl rfl rfl (by decide +kernel) ⟨Nat.le_of_ble_eq_true rfl, Nat.le_of_ble_eq_true rfl⟩) (u_preS zA_g hK hP hD hS hF hZ) rfl rfl hl.1 rfl (lv_room (Nat.le_of_ble_eq_true rfl)) dX2_fail_1 ⟨Nat.le_refl _, Nat.le_refl _⟩) hS hF (fun H locs hP hD hS => ?_)
  refine lv_if_eq (tgt := 18) hx hb dX2_fail_4 (by decide) (fun hq => ?_) (fun hq => ?_)
  · have hf := gs_t hf hq
    refine lv_iconst (v := (-1)) hx hb dX2_fail_18 (by decide) ?_
    exact W.iret (v := (-1)) hx hb hr (fun t ht hW => u_ri (Option.some.inj hf) ht hW hP hK hD hS) hS.2.2 dX2_fail_19
  · have hf := gs_f hf hq
    refine lv_aload_n hx hb dX2_fail_7 rfl (lv_at hl 0 rfl) ?_
    refine va_get (D := (dC, dI)) (ci := 2) (v := .ref (h 1)) (C := RX2) (T := TX2) (N := 2) hx hb hts inG_X2 hown hK hP 0 rfl rfl 0 (by decide) (hts _ mg_77) (fun _ h9 => h9) rfl dX2_fail_8 ?_
    refine lv_iload_n hx hb dX2_fail_11 rfl (lv_at hl 1 rfl) ?_
    obtain ⟨r3, σ4, hc, hf⟩ := gs_ob_e hf
    have hF := u_free hD hS hA
    refine u_calli (va_runV (As := [.int x1]) (rest := []) ⟨hx, hb, hml, hown, hts⟩ (ct_X1_isPresent l dC dI h k T σ2 H.size x1 _ hc) (cwV 1 hts (gd_V mg_213 mg_214 mg_215 mg_34 mg_216) rfl rfl rfl (by decide +kernel) ⟨Nat.le_of_ble_eq_true rfl, Nat.le_of_ble_eq_true rfl⟩) (u_preV zA_g hK hP hD hS hF hZ (va_recv hK hP (ci := 1) (q0 := 1) rfl rfl)) rfl rfl hl.1 rfl (lv_room (Nat.le_of_ble_eq_true rfl)) dX2_fail_12 ⟨Nat.le_refl _, Nat.le_refl _⟩) hS hF (fun H locs hP hD hS => ?_)
    refine lv_if_ne (tgt := 20) hx hb dX2_fail_15 (by decide) (fun hq => ?_) (fun hq => ?_)
    · have hf := gs_f hf hq
      refine lv_aload_n hx hb dX2_fail_20 rfl (lv_at hl 0 rfl) ?_
      refine va_get (D := (dC, dI)) (ci := 2) (v := .ref (h 1)) (C := RX2) (T := TX2) (N := 2) hx hb hts inG_X2 hown hK hP 0 rfl rfl 0 (by decide) (hts _ mg_77) (fun _ h9 => h9) rfl dX2_fail_21 ?_
      refine lv_iload_n hx hb dX2_fail_24 rfl (lv_at hl 1 rfl) ?_
      obtain ⟨r5, σ6, hc, hf⟩ := gs_ob_e hf
      have hF := u_free hD hS hA
      refine u_calli (va_runV (As := [.int x1]) (rest := []) ⟨hx, hb, hml, hown, hts⟩ (ct_X1_takeOut l dC dI h k T σ4 H.size x1 _ hc) (cwV 1 hts (gd_V mg_217 mg_218 mg_219 mg_34 mg_220) rfl rfl rfl (by decide +kernel) ⟨Nat.le_of_ble_eq_true rfl, Nat.le_of_ble_eq_true rfl⟩) (u_preV zA_g hK hP hD hS hF hZ (va_recv hK hP (ci := 1) (q0 := 1) rfl rfl)) rfl rfl hl.1 rfl (lv_room (Nat.le_of_ble_eq_true rfl)) dX2_fail_25 ⟨Nat.le_refl _, Nat.le_refl _⟩) hS hF (fun H locs hP hD hS => ?_)
      exact W.iret (v := r5) hx hb hr (fun t ht hW => u_ri (Option.some.inj hf) ht hW hP hK hD hS) hS.2.2 dX2_fail_28
    · have hf := gs_t hf hq
      refine lv_iconst (v := (-1)) hx hb dX2_fail_18 (by decide) ?_
      exact W.iret (v := (-1)) hx hb hr (fun t ht hW => u_ri (Option.some.inj hf) ht hW hP hK hD hS) hS.2.2 dX2_fail_19
