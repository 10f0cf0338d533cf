set_option maxHeartbeats 4000000 in
set_option maxRecDepth 100000 in
theorem ct_X2_disk (l : Launch) (dC : Nat → ClassId) (dI : Nat → Nat → Nat) (h : Nat → Nat) (k : Nat → ClassId) (T : Nat) (σ : gS) (sz : Nat) (x1 : Int32) (x2 : Int32) (y : Int32 × gS) (hf : fn_X2_disk T x1 x2 σ = some y) : Met l yX2_disk wsX2_disk ({ frames := 4, cells := 0, slots := 0, locals := 90 }) (va_Pc [.ref (h 0), .int x1, .int x2] (uPre (dC, dI) vwCl (tA k) (wA h k T) zA σ sz)) (va_Qi (fun r u => (r, u) = y) (uAt (dC, dI) vwCl (tA k) (wA h k T) (va_A (wA h k T σ) sz)) (va_A (wA h k T σ) sz)) 0 0 (va_A (wA h k T σ) sz) := by
  refine Met.ofW (cc := cX2_disk) (maxL := 3) (ret := (some .int)) (by decide) rfl ?_
  intro p e s m args below meth c s₁ B hml hv
  obtain ⟨rfl, hsz, hP, hK, hD0, hZ⟩ := hv
  have hx := B.exec
  have hb := B.bytes
  have hr := B.returns
  have hts : ∀ w ∈ gG, w.before _ s = true := fun w h => atoms_spec (ws := wsX2_disk) B.pre w (List.mem_cons_of_mem _ h)
  have hown : s.vm.findClass RX2 = some m.cls := findClass_of_methodNamed B.named
  have hlocks := B.notSynchronized
  subst hsz
  have hD := hD0.self (sz := s.heap.size)
  generalize hAe : va_A (wA h k T σ) s.heap.size = A at hD hZ ⊢
  have hA : ∀ q : Nat, s.heap.size ≤ q → A q := fun q h => by rw [← hAe]; exact Or.inr h
  have hS : va_S A s.heap s.heap [] := va_S.rf
  obtain ⟨t0, hZ0, hT0, hN0⟩ := id hZ
  have hl := lv_entry ([.ref (h 0), .int x1, .int x2]) (n := 3) (Nat.le_of_ble_eq_true rfl)
  rw [lg_entry_eq]
  generalize (lg_sl ([.ref (h 0), .int x1, .int x2]) ++ List.replicate (3 - (lg_sl ([.ref (h 0), .int x1, .int x2])).length) Slot.unset).toArray = ls at hl ⊢
  have hl : lv_has ls 3 [(0, .ref (h 0)), (1, .int x1), (2, .int x2)] := hl
  rw [fn_X2_disk] at hf
  refine lv_iload_n hx hb dX2_disk_0 rfl (lv_at hl 1 rfl) ?_
  obtain ⟨r1, σ2, hc, hf⟩ := gs_ob_e hf
  have hF := u_free hD hS hA
  refine u_calli (va_runS (As := [.int x1]) (rest := []) ⟨hx, hb, hml, hown, hts⟩ (ct_X2_isDisk l dC dI h k T σ s.heap.size x1 _ hc) (va_cwS 1 hts (gd_S mg_210 mg_211 mg_32 mg_212) rfl rfl rfl (by decide +kernel) ⟨Nat.le_of_ble_eq_true rfl, Nat.le_of_ble_eq_true rfl⟩) (u_preS zA_g hK hP hD hS hF hZ) rfl rfl hl.1 rfl (lv_room (Nat.le_of_ble_eq_true rfl)) dX2_disk_1 ⟨Nat.le_refl _, Nat.le_refl _⟩) hS hF (fun H locs hP hD hS => ?_)
  refine lv_if_ne (tgt := 9) hx hb dX2_disk_4 (by decide) (fun hq => ?_) (fun hq => ?_)
  · have hf := gs_f hf hq
    refine lv_iload_n hx hb dX2_disk_9 rfl (lv_at hl 2 rfl) ?_
    by_cases hq0 : x2 = 0
    · have hf := gs_t hf hq0
      refine lv_tableIn (tgt := 36) hx hb dX2_disk_10 (by rw [hq0]; decide) (by rw [hq0]; decide) (by rw [hq0]; rfl) (by decide) ?_
      refine lv_aload_n hx hb dX2_disk_36 rfl (lv_at hl 0 rfl) ?_
      refine va_get (D := (dC, dI)) (ci := 2) (v := .ref (h 1)) (C := RX2) (T := TX2) (N := 2) hx hb hts inG_X2 hown hK hP 0 rfl rfl 0 (by decide) (hts _ mg_77) (fun _ h9 => h9) rfl dX2_disk_37 ?_
      refine lv_iload_n hx hb dX2_disk_40 rfl (lv_at hl 1 rfl) ?_
      obtain ⟨r3, σ4, hc, hf⟩ := gs_ob_e hf
      have hF := u_free hD hS hA
      refine u_calli (va_runV (As := [.int x1]) (rest := []) ⟨hx, hb, hml, hown, hts⟩ (ct_X1_isPresent l dC dI h k T σ2 H.size x1 _ hc) (cwV 1 hts (gd_V mg_213 mg_214 mg_215 mg_34 mg_216) rfl rfl rfl (by decide +kernel) ⟨Nat.le_of_ble_eq_true rfl, Nat.le_of_ble_eq_true rfl⟩) (u_preV zA_g hK hP hD hS hF hZ (va_recv hK hP (ci := 1) (q0 := 1) rfl rfl)) rfl rfl hl.1 rfl (lv_room (Nat.le_of_ble_eq_true rfl)) dX2_disk_41 ⟨Nat.le_refl _, Nat.le_refl _⟩) hS hF (fun H locs hP hD hS => ?_)
      refine lv_if_eq (tgt := 51) hx hb dX2_disk_44 (by decide) (fun hq => ?_) (fun hq => ?_)
      · have hf := gs_t hf hq
        refine lv_iconst (v := 0) hx hb dX2_disk_51 (by decide) ?_
        exact W.iret (v := 0) hx hb hr (fun t ht hW => u_ri (Option.some.inj hf) ht hW hP hK hD hS) hS.2.2 dX2_disk_52
      · have hf := gs_f hf hq
        refine lv_iconst (v := 1) hx hb dX2_disk_47 (by decide) ?_
        refine lv_goto (tgt := 52) hx hb dX2_disk_48 (by decide) ?_
        exact W.iret (v := 1) hx hb hr (fun t ht hW => u_ri (Option.some.inj hf) ht hW hP hK hD hS) hS.2.2 dX2_disk_52
    · have hf := gs_f hf hq0
      by_cases hq1 : x2 = 1
      · have hf := gs_t hf hq1
        refine lv_tableIn (tgt := 53) hx hb dX2_disk_10 (by rw [hq1]; decide) (by rw [hq1]; decide) (by rw [hq1]; rfl) (by decide) ?_
        refine lv_aload_n hx hb dX2_disk_53 rfl (lv_at hl 0 rfl) ?_
        refine va_get (D := (dC, dI)) (ci := 2) (v := .ref (h 1)) (C := RX2) (T := TX2) (N := 2) hx hb hts inG_X2 hown hK hP 0 rfl rfl 0 (by decide) (hts _ mg_77) (fun _ h9 => h9) rfl dX2_disk_54 ?_
        refine lv_iload_n hx hb dX2_disk_57 rfl (lv_at hl 1 rfl) ?_
        obtain ⟨r5, σ6, hc, hf⟩ := gs_ob_e hf
        have hF := u_free hD hS hA
        refine u_calli (va_runV (As := [.int x1]) (rest := []) ⟨hx, hb, hml, hown, hts⟩ (ct_X1_cellsOn l dC dI h k T σ2 H.size x1 _ hc) (cwV 1 hts (gd_V mg_316 mg_317 mg_318 mg_34 mg_319) rfl rfl rfl (by decide +kernel) ⟨Nat.le_of_ble_eq_true rfl, Nat.le_of_ble_eq_true rfl⟩) (u_preV zA_g hK hP hD hS hF hZ (va_recv hK hP (ci := 1) (q0 := 1) rfl rfl)) rfl rfl hl.1 rfl (lv_room (Nat.le_of_ble_eq_true rfl)) dX2_disk_58 ⟨Nat.le_refl _, Nat.le_refl _⟩) hS hF (fun H locs hP hD hS => ?_)
        exact W.iret (v := r5) hx hb hr (fun t ht hW => u_ri (Option.some.inj hf) ht hW hP hK hD hS) hS.2.2 dX2_disk_61
      · have hf := gs_f hf hq1
        by_cases hq2 : x2 = 2
        · have hf := gs_t hf hq2
          refine lv_tableIn (tgt := 62) hx hb dX2_disk_10 (by rw [hq2]; decide) (by rw [hq2]; decide) (by rw [hq2]; rfl) (by decide) ?_
          refine lv_aload_n hx hb dX2_disk_62 rfl (lv_at hl 0 rfl) ?_
          refine va_get (D := (dC, dI)) (ci := 2) (v := .ref (h 1)) (C := RX2) (T := TX2) (N := 2) hx hb hts inG_X2 hown hK hP 0 rfl rfl 0 (by decide) (hts _ mg_77) (fun _ h9 => h9) rfl dX2_disk_63 ?_
          refine lv_iload_n hx hb dX2_disk_66 rfl (lv_at hl 1 rfl) ?_
          obtain ⟨r7, σ8, hc, hf⟩ := gs_ob_e hf
          have hF := u_free hD hS hA
          refine u_calli (va_runV (As := [.int x1]) (rest := []) ⟨hx, hb, hml, hown, hts⟩ (ct_X1_movedCellsOn l dC dI h k T σ2 H.size x1 _ hc) (cwV 1 hts (gd_V mg_320 mg_321 mg_322 mg_34 mg_323) rfl rfl rfl (by decide +kernel) ⟨Nat.le_of_ble_eq_true rfl, Nat.le_of_ble_eq_true rfl⟩) (u_preV zA_g hK hP hD hS hF hZ (va_recv hK hP (ci := 1) (q0 := 1) rfl rfl)) rfl rfl hl.1 rfl (lv_room (Nat.le_of_ble_eq_true rfl)) dX2_disk_67 ⟨Nat.le_refl _, Nat.le_refl _⟩) hS hF (fun H locs hP hD hS => ?_)
          exact W.iret (v := r7) hx hb hr (fun t ht hW => u_ri (Option.some.inj hf) ht hW hP hK hD hS) hS.2.2 dX2_disk_70
        · have hf := gs_f hf hq2
          have hn0 := lv_neT hq0 (a := 0) (by decide)
          have hn1 := lv_neT hq1 (a := 1) (by decide)
          have hn2 := lv_neT hq2 (a := 2) (by decide)
          refine lv_tableOut (tgt := 71) hx hb dX2_disk_10 (by omega) (by decide) ?_
          refine lv_iconst (v := (-1)) hx hb dX2_disk_71 (by decide) ?_
          exact W.iret (v := (-1)) hx hb hr (fun t ht hW => u_ri (Option.some.inj hf) ht hW hP hK hD hS) hS.2.2 dX2_disk_72
  · have hf := gs_t hf hq
    refine lv_iconst (v := (-1)) hx hb dX2_disk_7 (by decide) ?_
    exact W.iret (v := (-1)) hx hb hr (fun t ht hW => u_ri (Option.some.inj hf) ht hW hP hK hD hS) hS.2.2 dX2_disk_8
set_option maxHeartbeats 4000000 in
set_option maxRecDepth 100000 in
theorem ct_X0_freeBlocks (l : Launch) (dC : Nat → ClassId) (dI : Nat → Nat → Nat) (h : Nat → Nat) (k : Nat → ClassId) (T : Nat) (σ : gS) (sz : Nat) (y : Int32 × gS) (hf : fn_X0_freeBlocks T σ = some y) : Met l yX0_freeBlocks wsX0_freeBlocks ({ frames := 0, cells := 0, slots := 0, locals := 0 }) (va_Pc [.ref (h 7)] (uPre (dC, dI) vwCl (tA k) (wA h k T) zA σ sz)) (va_Qi (fun r u => (r, u) = y) (uAt (dC, dI) vwCl (tA k) (wA h k T) (va_A (wA h k T σ) sz)) (va_A (wA h k T σ) sz)) 0 0 (va_A (wA h k T σ) sz) := by
  refine Met.ofW (cc := cX0_freeBlocks) (maxL := 3) (ret := (some .int)) (by decide) rfl ?_
  intro p e s m args below meth c s₁ B hml hv
  obtain ⟨rfl, hsz, hP, hK, hD0, hZ⟩ := hv
  have hx := B.exec
  have hb := B.bytes
  have hr := B.returns
  have hts : ∀ w ∈ gG, w.before _ s = true := fun w h => atoms_spec (ws := wsX0_freeBlocks) B.pre w (List.mem_cons_of_mem _ h)
  have hown : s.vm.findClass RX0 = some m.cls := findClass_of_methodNamed B.named
  have hlocks := B.notSynchronized
  subst hsz
  have hD := hD0.self (sz := s.heap.size)
  generalize hAe : va_A (wA h k T σ) s.heap.size = A at hD hZ ⊢
  have hA : ∀ q : Nat, s.heap.size ≤ q → A q := fun q h => by rw [← hAe]; exact Or.inr h
  have hS : va_S A s.heap s.heap [] := va_S.rf
  obtain ⟨t0, hZ0, hT0, hN0⟩ := id hZ
  have L4 : ∀ (n : Nat), ∀ (z1 : Int32) (z2 : Int32) (σ : gS) (H : Heap) (locs : List Loc) (ls : Array Slot), fn_X0_freeBlocks_L4 T n z1 z2 σ = some y → va_P (dC, dI) vwCl (wA h k T σ) H → va_D A (wA h k T σ) → va_S A s.heap H locs → lv_has ls 3 [(0, .ref (h 7)), (1, .int z1), (2, .int z2)] → W p l e ({ frames := 0, cells := 0, slots := 0, locals := 0 }) s m ([.ref (h 7)] : List Value).toArray below meth c H locs 0 0 (MQ below (va_Qi (fun r u => (r, u) = y) (uAt (dC, dI) vwCl (tA k) (wA h k T) A) A) ([.ref (h 7)] : List Value).toArray s 0 0 A) (F0 m 4 ls []) := by
    intro n
    induction n with
    | zero => intro z1 z2 σ H locs ls hf; exact absurd hf (by rw [fn_X0_freeBlocks_L4]; exact nofun)
    | succ n ih =>
      intro z1 z2 σ H locs ls hf hP hD hS hl
      rw [fn_X0_freeBlocks_L4] at hf
      refine lv_iload_n hx hb dX0_freeBlocks_4 rfl (lv_at hl 2 rfl) ?_
      refine lv_aload_n hx hb dX0_freeBlocks_5 rfl (lv_at hl 0 rfl) ?_
      refine va_get (D := (dC, dI)) (ci := 0) (v := .ref (h 8)) (C := RX0) (T := TX0) (N := 5) hx hb hts inG_X0 hown hK hP 7 rfl rfl 0 (by decide) (hts _ mg_72) (fun _ h9 => h9) rfl dX0_freeBlocks_6 ?_
      refine va_alen (v := nI (3 * T)) hx hb hK hP 8 5 rfl rfl rfl dX0_freeBlocks_9 ?_
      refine lv_icmp_ge (tgt := 31) hx hb dX0_freeBlocks_10 (by decide) (fun hq => ?_) (fun hq => ?_)
      · have hf := gs_t hf hq
        refine lv_iload_n hx hb dX0_freeBlocks_31 rfl (lv_at hl 1 rfl) ?_
        exact W.iret (v := z1) hx hb hr (fun t ht hW => u_ri (Option.some.inj hf) ht hW hP hK hD hS) hS.2.2 dX0_freeBlocks_32
      · have hf := gs_f hf hq
        refine lv_aload_n hx hb dX0_freeBlocks_13 rfl (lv_at hl 0 rfl) ?_
        refine va_get (D := (dC, dI)) (ci := 0) (v := .ref (h 8)) (C := RX0) (T := TX0) (N := 5) hx hb hts inG_X0 hown hK hP 7 rfl rfl 0 (by decide) (hts _ mg_72) (fun _ h9 => h9) rfl dX0_freeBlocks_14 ?_
        refine lv_iload_n hx hb dX0_freeBlocks_17 rfl (lv_at hl 2 rfl) ?_
        obtain ⟨hin, hf⟩ := gs_gd_e hf
        refine va_zald hx hb hK hP 8 5 rfl rfl hin dX0_freeBlocks_18 ?_
        refine lv_if_ne (tgt := 25) hx hb dX0_freeBlocks_19 (by decide) (fun hq => ?_) (fun hq => ?_)
        · have hf := gs_f hf hq
          refine lv_iinc (v := z2 + 1) (lv' := [(2, .int (z2 + 1)), (0, .ref (h 7)), (1, .int z1)]) hx hb dX0_freeBlocks_25 hl (k := 2) rfl rfl (by decide) rfl (fun ls hl => ?_)
          refine lv_goto (tgt := 4) hx hb dX0_freeBlocks_28 (by decide) ?_
          exact ih z1 (z2 + 1) σ _ _ _ hf hP hD hS (lv_sub hl [1, 2, 0] rfl)
        · have hf := gs_t hf hq
          refine lv_iinc (v := z1 + 1) (lv' := [(1, .int (z1 + 1)), (0, .ref (h 7)), (2, .int z2)]) hx hb dX0_freeBlocks_22 hl (k := 1) rfl rfl (by decide) rfl (fun ls hl => ?_)
          refine lv_iinc (v := z2 + 1) (lv' := [(2, .int (z2 + 1)), (1, .int (z1 + 1)), (0, .ref (h 7))]) hx hb dX0_freeBlocks_25 hl (k := 2) rfl rfl (by decide) rfl (fun ls hl => ?_)
          refine lv_goto (tgt := 4) hx hb dX0_freeBlocks_28 (by decide) ?_
          exact ih (z1 + 1) (z2 + 1) σ _ _ _ hf hP hD hS (lv_sub hl [2, 1, 0] rfl)
  have hl := lv_entry ([.ref (h 7)]) (n := 3) (Nat.le_of_ble_eq_true rfl)
  rw [lg_entry_eq]
  generalize (lg_sl ([.ref (h 7)]) ++ List.replicate (3 - (lg_sl ([.ref (h 7)])).length) Slot.unset).toArray = ls at hl ⊢
  have hl : lv_has ls 3 [(0, .ref (h 7))] := hl
  rw [fn_X0_freeBlocks] at hf
  refine lv_iconst (v := 0) hx hb dX0_freeBlocks_0 (by decide) ?_
  refine lv_istore_n (lv' := [(1, .int 0), (0, .ref (h 7))]) hx hb dX0_freeBlocks_1 rfl hl (by decide) rfl (fun ls hl => ?_)
  refine lv_iconst (v := 0) hx hb dX0_freeBlocks_2 (by decide) ?_
  refine lv_istore_n (lv' := [(2, .int 0), (1, .int 0), (0, .ref (h 7))]) hx hb dX0_freeBlocks_3 rfl hl (by decide) rfl (fun ls hl => ?_)
  exact L4 gs_fu 0 0 σ _ _ _ hf hP hD hS (lv_sub hl [2, 1, 0] rfl)
set_option maxHeartbeats 4000000 in
set_option maxRecDepth 100000 in
theorem ct_X0_longestRunLength (l : Launch) (dC : Nat → ClassId) (dI : Nat → Nat → Nat) (h : Nat → Nat) (k : Nat → ClassId) (T : Nat) (σ : gS) (sz : Nat) (y : Int32 × gS) (hf : fn_X0_longestRunLength T σ = some y) : Met l yX0_longestRunLength wsX0_longestRunLength ({ frames := 2, cells := 0, slots := 0, locals := 45 }) (va_Pc [.ref (h 7)] (uPre (dC, dI) vwCl (tA k) (wA h k T) zA σ sz)) (va_Qi (fun r u => (r, u) = y) (uAt (dC, dI) vwCl (tA k) (wA h k T) (va_A (wA h k T σ) sz)) (va_A (wA h k T σ) sz)) 0 0 (va_A (wA h k T σ) sz) := by
  refine Met.ofW (cc := cX0_longestRunLength) (maxL := 2) (ret := (some .int)) (by decide) rfl ?_
  intro p e s m args below meth c s₁ B hml hv
  obtain ⟨rfl, hsz, hP, hK, hD0, hZ⟩ := hv
  have hx := B.exec
  have hb := B.bytes
  have hr := B.returns
  have hts : ∀ w ∈ gG, w.before _ s = true := fun w h => atoms_spec (ws := wsX0_longestRunLength) B.pre w (List.mem_cons_of_mem _ h)
  have hown : s.vm.findClass RX0 = some m.cls := findClass_of_methodNamed B.named
  have hlocks := B.notSynchronized
  subst hsz
  have hD := hD0.self (sz := s.heap.size)
  generalize hAe : va_A (wA h k T σ) s.heap.size = A at hD hZ ⊢
  have hA : ∀ q : Nat, s.heap.size ≤ q → A q := fun q h => by rw [← hAe]; exact Or.inr h
  have hS : va_S A s.heap s.heap [] := va_S.rf
  obtain ⟨t0, hZ0, hT0, hN0⟩ := id hZ
  have hl := lv_entry ([.ref (h 7)]) (n := 2) (Nat.le_of_ble_eq_true rfl)
  rw [lg_entry_eq]
  generalize (lg_sl ([.ref (h 7)]) ++ List.replicate (2 - (lg_sl ([.ref (h 7)])).length) Slot.unset).toArray = ls at hl ⊢
  have hl : lv_has ls 2 [(0, .ref (h 7))] := hl
  rw [fn_X0_longestRunLength] at hf
  refine lv_aload_n hx hb dX0_longestRunLength_0 rfl (lv_at hl 0 rfl) ?_
  obtain ⟨r1, σ2, hc, hf⟩ := gs_ob_e hf
  have hF := u_free hD hS hA
  refine u_calli (va_runV (As := []) (rest := []) ⟨hx, hb, hml, hown, hts⟩ (ct_X0_longestRun l dC dI h k T σ s.heap.size _ hc) (cwV 0 hts (gd_V mg_112 mg_113 mg_6 mg_35 mg_114) rfl rfl rfl (by decide +kernel) ⟨Nat.le_of_ble_eq_true rfl, Nat.le_of_ble_eq_true rfl⟩) (u_preV zA_g hK hP hD hS hF hZ (va_recv hK hP (ci := 0) (q0 := 7) rfl rfl)) rfl rfl hl.1 rfl (lv_room (Nat.le_of_ble_eq_true rfl)) dX0_longestRunLength_1 ⟨Nat.le_refl _, Nat.le_refl _⟩) hS hF (fun H locs hP hD hS => ?_)
  refine lv_istore_n (lv' := [(1, .int r1), (0, .ref (h 7))]) hx hb dX0_longestRunLength_4 rfl hl (by decide) rfl (fun ls hl => ?_)
  refine lv_iload_n hx hb dX0_longestRunLength_5 rfl (lv_at hl 0 rfl) ?_
  refine lv_iconst (v := (-1)) hx hb dX0_longestRunLength_6 (by decide) ?_
  refine lv_icmp_ne (tgt := 14) hx hb dX0_longestRunLength_7 (by decide) (fun hq => ?_) (fun hq => ?_)
  · have hf := gs_f hf hq
    refine lv_aload_n hx hb dX0_longestRunLength_14 rfl (lv_at hl 1 rfl) ?_
    refine lv_iload_n hx hb dX0_longestRunLength_15 rfl (lv_at hl 0 rfl) ?_
    obtain ⟨r3, σ4, hc, hf⟩ := gs_ob_e hf
    have hF := u_free hD hS hA
    refine u_calli (va_runV (As := [.int r1]) (rest := []) ⟨hx, hb, hml, hown, hts⟩ (ct_X0_runFrom l dC dI h k T σ2 H.size r1 _ hc) (cwV 1 hts (gd_V mg_100 mg_101 mg_2 mg_35 mg_102) rfl rfl rfl (by decide +kernel) ⟨Nat.le_of_ble_eq_true rfl, Nat.le_of_ble_eq_true rfl⟩) (u_preV zA_g hK hP hD hS hF hZ (va_recv hK hP (ci := 0) (q0 := 7) rfl rfl)) rfl rfl hl.1 rfl (lv_room (Nat.le_of_ble_eq_true rfl)) dX0_longestRunLength_16 ⟨Nat.le_refl _, Nat.le_refl _⟩) hS hF (fun H locs hP hD hS => ?_)
    exact W.iret (v := r3) hx hb hr (fun t ht hW => u_ri (Option.some.inj hf) ht hW hP hK hD hS) hS.2.2 dX0_longestRunLength_19
  · have hf := gs_t hf hq
    refine lv_iconst (v := 0) hx hb dX0_longestRunLength_10 (by decide) ?_
    refine lv_goto (tgt := 19) hx hb dX0_longestRunLength_11 (by decide) ?_
    exact W.iret (v := 0) hx hb hr (fun t ht hW => u_ri (Option.some.inj hf) ht hW hP hK hD hS) hS.2.2 dX0_longestRunLength_19
set_option maxHeartbeats 4000000 in
set_option maxRecDepth 100000 in
theorem ct_X1_lostColumns (l : Launch) (dC : Nat → ClassId) (dI : Nat → Nat → Nat) (h : Nat → Nat) (k : Nat → ClassId) (T : Nat) (σ : gS) (sz : Nat) (y : Int32 × gS) (hf : fn_X1_lostColumns T σ = some y) : Met l yX1_lostColumns wsX1_lostColumns ({ frames := 0, cells := 0, slots := 0, locals := 0 }) (va_Pc [.ref (h 1)] (uPre (dC, dI) vwCl (tA k) (wA h k T) zA σ sz)) (va_Qi (fun r u => (r, u) = y) (uAt (dC, dI) vwCl (tA k) (wA h k T) (va_A (wA h k T σ) sz)) (va_A (wA h k T σ) sz)) 0 0 (va_A (wA h k T σ) sz) := by
  refine Met.ofW (cc := cX1_lostColumns) (maxL := 3) (ret := (some .int)) (by decide) rfl ?_
  intro p e s m args below meth c s₁ B hml hv
  obtain ⟨rfl, hsz, hP, hK, hD0, hZ⟩ := hv
  have hx := B.exec
  have hb := B.bytes
  have hr := B.returns
  have hts : ∀ w ∈ gG, w.before _ s = true := fun w h => atoms_spec (ws := wsX1_lostColumns) B.pre w (List.mem_cons_of_mem _ h)
  have hown : s.vm.findClass RX1 = some m.cls := findClass_of_methodNamed B.named
  have hlocks := B.notSynchronized
  subst hsz
  have hD := hD0.self (sz := s.heap.size)
  generalize hAe : va_A (wA h k T σ) s.heap.size = A at hD hZ ⊢
  have hA : ∀ q : Nat, s.heap.size ≤ q → A q := fun q h => by rw [← hAe]; exact Or.inr h
  have hS : va_S A s.heap s.heap [] := va_S.rf
  obtain ⟨t0, hZ0, hT0, hN0⟩ := id hZ
  have L4 : ∀ (n : Nat), ∀ (z1 : Int32) (z2 : Int32) (σ : gS) (H : Heap) (locs : List Loc) (ls : Array Slot), fn_X1_lostColumns_L4 T n z1 z2 σ = some y → va_P (dC, dI) vwCl (wA h k T σ) H → va_D A (wA h k T σ) → va_S A s.heap H locs → lv_has ls 3 [(0, .ref (h 1)), (1, .int z1), (2, .int z2)] → W p l e ({ frames := 0, cells := 0, slots := 0, locals := 0 }) s m ([.ref (h 1)] : List Value).toArray below meth c H locs 0 0 (MQ below (va_Qi (fun r u => (r, u) = y) (uAt (dC, dI) vwCl (tA k) (wA h k T) A) A) ([.ref (h 1)] : List Value).toArray s 0 0 A) (F0 m 4 ls []) := by
    intro n
    induction n with
    | zero => intro z1 z2 σ H locs ls hf; exact absurd hf (by rw [fn_X1_lostColumns_L4]; exact nofun)
    | succ n ih =>
      intro z1 z2 σ H locs ls hf hP hD hS hl
      rw [fn_X1_lostColumns_L4] at hf
      refine lv_iload_n hx hb dX1_lostColumns_4 rfl (lv_at hl 2 rfl) ?_
      refine lv_aload_n hx hb dX1_lostColumns_5 rfl (lv_at hl 0 rfl) ?_
      refine va_get (D := (dC, dI)) (ci := 1) (v := .ref (h 5)) (C := RX1) (T := TX1) (N := 7) hx hb hts inG_X1 hown hK hP 1 rfl rfl 4 (by decide) (hts _ mg_61) (fun _ h9 => h9) rfl dX1_lostColumns_6 ?_
      refine va_alen (v := nI (4 * T)) hx hb hK hP 5 3 rfl rfl rfl dX1_lostColumns_9 ?_
      refine lv_icmp_ge (tgt := 31) hx hb dX1_lostColumns_10 (by decide) (fun hq => ?_) (fun hq => ?_)
      · have hf := gs_t hf hq
        refine lv_iload_n hx hb dX1_lostColumns_31 rfl (lv_at hl 1 rfl) ?_
        exact W.iret (v := z1) hx hb hr (fun t ht hW => u_ri (Option.some.inj hf) ht hW hP hK hD hS) hS.2.2 dX1_lostColumns_32
      · have hf := gs_f hf hq
        refine lv_aload_n hx hb dX1_lostColumns_13 rfl (lv_at hl 0 rfl) ?_
        refine va_get (D := (dC, dI)) (ci := 1) (v := .ref (h 5)) (C := RX1) (T := TX1) (N := 7) hx hb hts inG_X1 hown hK hP 1 rfl rfl 4 (by decide) (hts _ mg_61) (fun _ h9 => h9) rfl dX1_lostColumns_14 ?_
        refine lv_iload_n hx hb dX1_lostColumns_17 rfl (lv_at hl 2 rfl) ?_
        obtain ⟨hin, hf⟩ := gs_gd_e hf
        refine va_zald hx hb hK hP 5 3 rfl rfl hin dX1_lostColumns_18 ?_
        refine lv_if_eq (tgt := 25) hx hb dX1_lostColumns_19 (by decide) (fun hq => ?_) (fun hq => ?_)
        · have hf := gs_t hf hq
          refine lv_iinc (v := z2 + 1) (lv' := [(2, .int (z2 + 1)), (0, .ref (h 1)), (1, .int z1)]) hx hb dX1_lostColumns_25 hl (k := 2) rfl rfl (by decide) rfl (fun ls hl => ?_)
          refine lv_goto (tgt := 4) hx hb dX1_lostColumns_28 (by decide) ?_
          exact ih z1 (z2 + 1) σ _ _ _ hf hP hD hS (lv_sub hl [1, 2, 0] rfl)
        · have hf := gs_f hf hq
          refine lv_iinc (v := z1 + 1) (lv' := [(1, .int (z1 + 1)), (0, .ref (h 1)), (2, .int z2)]) hx hb dX1_lostColumns_22 hl (k := 1) rfl rfl (by decide) rfl (fun ls hl => ?_)
          refine lv_iinc (v := z2 + 1) (lv' := [(2, .int (z2 + 1)), (1, .int (z1 + 1)), (0, .ref (h 1))]) hx hb dX1_lostColumns_25 hl (k := 2) rfl rfl (by decide) rfl (fun ls hl => ?_)
          refine lv_goto (tgt := 4) hx hb dX1_lostColumns_28 (by decide) ?_
          exact ih (z1 + 1) (z2 + 1) σ _ _ _ hf hP hD hS (lv_sub hl [2, 1, 0] rfl)
  have hl := lv_entry ([.ref (h 1)]) (n := 3) (Nat.le_of_ble_eq_true rfl)
  rw [lg_entry_eq]
  generalize (lg_sl ([.ref (h 1)]) ++ List.replicate (3 - (lg_sl ([.ref (h 1)])).length) Slot.unset).toArray = ls at hl ⊢
  have hl : lv_has ls 3 [(0, .ref (h 1))] := hl
  rw [fn_X1_lostColumns] at hf
  refine lv_iconst (v := 0) hx hb dX1_lostColumns_0 (by decide) ?_
  refine lv_istore_n (lv' := [(1, .int 0), (0, .ref (h 1))]) hx hb dX1_lostColumns_1 rfl hl (by decide) rfl (fun ls hl => ?_)
  refine lv_iconst (v := 0) hx hb dX1_lostColumns_2 (by decide) ?_
  refine lv_istore_n (lv' := [(2, .int 0), (1, .int 0), (0, .ref (h 1))]) hx hb dX1_lostColumns_3 rfl hl (by decide) rfl (fun ls hl => ?_)
  exact L4 gs_fu 0 0 σ _ _ _ hf hP hD hS (lv_sub hl [2, 1, 0] rfl)
set_option maxHeartbeats 4000000 in
set_option maxRecDepth 100000 in
theorem ct_X1_wrongColumns (l : Launch) (dC : Nat → ClassId) (dI : Nat → Nat → Nat) (h : Nat → Nat) (k : Nat → ClassId) (T : Nat) (σ : gS) (sz : Nat) (y : Int32 × gS) (hf : fn_X1_wrongColumns T σ = some y) : Met l yX1_wrongColumns wsX1_wrongColumns ({ frames := 2, cells := 0, slots := 0, locals := 44 }) (va_Pc [.ref (h 1)] (uPre (dC, dI) vwCl (tA k) (wA h k T) zA σ sz)) (va_Qi (fun r u => (r, u) = y) (uAt (dC, dI) vwCl (tA k) (wA h k T) (va_A (wA h k T σ) sz)) (va_A (wA h k T σ) sz)) 0 0 (va_A (wA h k T σ) sz) := by
  refine Met.ofW (cc := cX1_wrongColumns) (maxL := 4) (ret := (some .int)) (by decide) rfl ?_
  intro p e s m args below meth c s₁ B hml hv
  obtain ⟨rfl, hsz, hP, hK, hD0, hZ⟩ := hv
  have hx := B.exec
  have hb := B.bytes
  have hr := B.returns
  have hts : ∀ w ∈ gG, w.before _ s = true := fun w h => atoms_spec (ws := wsX1_wrongColumns) B.pre w (List.mem_cons_of_mem _ h)
  have hown : s.vm.findClass RX1 = some m.cls := findClass_of_methodNamed B.named
  have hlocks := B.notSynchronized
  subst hsz
  have hD := hD0.self (sz := s.heap.size)
  generalize hAe : va_A (wA h k T σ) s.heap.size = A at hD hZ ⊢
  have hA : ∀ q : Nat, s.heap.size ≤ q → A q := fun q h => by rw [← hAe]; exact Or.inr h
  have hS : va_S A s.heap s.heap [] := va_S.rf
  obtain ⟨t0, hZ0, hT0, hN0⟩ := id hZ
  have L14 : ∀ (K4 : Int32 → Int32 → gS → Option (Int32 × gS)), (∀ (z1 : Int32) (z2 : Int32) (σ : gS) (H : Heap) (locs : List Loc) (ls : Array Slot), K4 z1 z2 σ = some y → va_P (dC, dI) vwCl (wA h k T σ) H → va_D A (wA h k T σ) → va_S A s.heap H locs → lv_has ls 4 [(0, .ref (h 1)), (1, .int z1), (2, .int z2)] → W p l e ({ frames := 2, cells := 0, slots := 0, locals := 44 }) s m ([.ref (h 1)] : List Value).toArray below meth c H locs 0 0 (MQ below (va_Qi (fun r u => (r, u) = y) (uAt (dC, dI) vwCl (tA k) (wA h k T) A) A) ([.ref (h 1)] : List Value).toArray s 0 0 A) (F0 m 4 ls [])) → ∀ (n : Nat), ∀ (z1 : Int32) (z2 : Int32) (z3 : Int32) (σ : gS) (H : Heap) (locs : List Loc) (ls : Array Slot), fn_X1_wrongColumns_L14 T K4 n z1 z2 z3 σ = some y → va_P (dC, dI) vwCl (wA h k T σ) H → va_D A (wA h k T σ) → va_S A s.heap H locs → lv_has ls 4 [(0, .ref (h 1)), (1, .int z1), (2, .int z2), (3, .int z3)] → W p l e ({ frames := 2, cells := 0, slots := 0, locals := 44 }) s m ([.ref (h 1)] : List Value).toArray below meth c H locs 0 0 (MQ below (va_Qi (fun r u => (r, u) = y) (uAt (dC, dI) vwCl (tA k) (wA h k T) A) A) ([.ref (h 1)] : List Value).toArray s 0 0 A) (F0 m 14 ls []) := by
    intro K4 hK4
    intro n
    induction n with
    | zero => intro z1 z2 z3 σ H locs ls hf; exact absurd hf (by rw [fn_X1_wrongColumns_L14]; exact nofun)
    | succ n ih =>
      intro z1 z2 z3 σ H locs ls hf hP hD hS hl
      rw [fn_X1_wrongColumns_L14] at hf
      refine lv_iload_n hx hb dX1_wrongColumns_14 rfl (lv_at hl 3 rfl) ?_
      refine lv_iconst (v := 4) hx hb dX1_wrongColumns_15 (by decide) ?_
      refine lv_icmp_ge (tgt := 37) hx hb dX1_wrongColumns_16 (by decide) (fun hq => ?_) (fun hq => ?_)
      · have hf := gs_t hf hq
        refine lv_iinc (v := z2 + 1) (lv' := [(2, .int (z2 + 1)), (0, .ref (h 1)), (1, .int z1), (3, .int z3)]) hx hb dX1_wrongColumns_37 hl (k := 2) rfl rfl (by decide) rfl (fun ls hl => ?_)
        refine lv_goto (tgt := 4) hx hb dX1_wrongColumns_40 (by decide) ?_
        exact hK4 z1 (z2 + 1) σ _ _ _ hf hP hD hS (lv_sub hl [1, 2, 0] rfl)
      · have hf := gs_f hf hq
        refine lv_aload_n hx hb dX1_wrongColumns_19 rfl (lv_at hl 0 rfl) ?_
        refine lv_iload_n hx hb dX1_wrongColumns_20 rfl (lv_at hl 2 rfl) ?_
        refine lv_iload_n hx hb dX1_wrongColumns_21 rfl (lv_at hl 3 rfl) ?_
        obtain ⟨r1, σ2, hc, hf⟩ := gs_ob_e hf
        have hF := u_free hD hS hA
        refine u_calli (va_runV (As := [.int z2, .int z3]) (rest := []) ⟨hx, hb, hml, hown, hts⟩ (ct_X1_isWrong l dC dI h k T σ H.size z2 z3 _ hc) (cwV 2 hts (gd_V mg_167 mg_168 mg_169 mg_34 mg_170) rfl rfl rfl (by decide +kernel) ⟨Nat.le_of_ble_eq_true rfl, Nat.le_of_ble_eq_true rfl⟩) (u_preV zA_g hK hP hD hS hF hZ (va_recv hK hP (ci := 1) (q0 := 1) rfl rfl)) rfl rfl hl.1 rfl (lv_room (Nat.le_of_ble_eq_true rfl)) dX1_wrongColumns_22 ⟨Nat.le_refl _, Nat.le_refl _⟩) hS hF (fun H locs hP hD hS => ?_)
        refine lv_if_eq (tgt := 31) hx hb dX1_wrongColumns_25 (by decide) (fun hq => ?_) (fun hq => ?_)
        · have hf := gs_t hf hq
          refine lv_iinc (v := z3 + 1) (lv' := [(3, .int (z3 + 1)), (0, .ref (h 1)), (1, .int z1), (2, .int z2)]) hx hb dX1_wrongColumns_31 hl (k := 3) rfl rfl (by decide) rfl (fun ls hl => ?_)
          refine lv_goto (tgt := 14) hx hb dX1_wrongColumns_34 (by decide) ?_
          exact ih z1 z2 (z3 + 1) σ2 _ _ _ hf hP hD hS (lv_sub hl [1, 2, 3, 0] rfl)
        · have hf := gs_f hf hq
          refine lv_iinc (v := z1 + 1) (lv' := [(1, .int (z1 + 1)), (0, .ref (h 1)), (2, .int z2), (3, .int z3)]) hx hb dX1_wrongColumns_28 hl (k := 1) rfl rfl (by decide) rfl (fun ls hl => ?_)
          refine lv_iinc (v := z3 + 1) (lv' := [(3, .int (z3 + 1)), (1, .int (z1 + 1)), (0, .ref (h 1)), (2, .int z2)]) hx hb dX1_wrongColumns_31 hl (k := 3) rfl rfl (by decide) rfl (fun ls hl => ?_)
          refine lv_goto (tgt := 14) hx hb dX1_wrongColumns_34 (by decide) ?_
          exact ih (z1 + 1) z2 (z3 + 1) σ2 _ _ _ hf hP hD hS (lv_sub hl [2, 1, 3, 0] rfl)
  have L4 : ∀ (n : Nat), ∀ (z1 : Int32) (z2 : Int32) (σ : gS) (H : Heap) (locs : List Loc) (ls : Array Slot), fn_X1_wrongColumns_L4 T n z1 z2 σ = some y → va_P (dC, dI) vwCl (wA h k T σ) H → va_D A (wA h k T σ) → va_S A s.heap H locs → lv_has ls 4 [(0, .ref (h 1)), (1, .int z1), (2, .int z2)] → W p l e ({ frames := 2, cells := 0, slots := 0, locals := 44 }) s m ([.ref (h 1)] : List Value).toArray below meth c H locs 0 0 (MQ below (va_Qi (fun r u => (r, u) = y) (uAt (dC, dI) vwCl (tA k) (wA h k T) A) A) ([.ref (h 1)] : List Value).toArray s 0 0 A) (F0 m 4 ls []) := by
    intro n
    induction n with
    | zero => intro z1 z2 σ H locs ls hf; exact absurd hf (by rw [fn_X1_wrongColumns_L4]; exact nofun)
    | succ n ih =>
      intro z1 z2 σ H locs ls hf hP hD hS hl
      rw [fn_X1_wrongColumns_L4] at hf
      refine lv_iload_n hx hb dX1_wrongColumns_4 rfl (lv_at hl 2 rfl) ?_
      refine lv_aload_n hx hb dX1_wrongColumns_5 rfl (lv_at hl 0 rfl) ?_
      refine va_get (D := (dC, dI)) (ci := 1) (v := .int (σ 6 0)) (C := RX1) (T := TX1) (N := 7) hx hb hts inG_X1 hown hK hP 1 rfl rfl 0 (by decide) (hts _ mg_57) (fun _ h9 => h9) rfl dX1_wrongColumns_6 ?_
      refine lv_icmp_ge (tgt := 43) hx hb dX1_wrongColumns_9 (by decide) (fun hq => ?_) (fun hq => ?_)
      · have hf := gs_t hf hq
        refine lv_iload_n hx hb dX1_wrongColumns_43 rfl (lv_at hl 1 rfl) ?_
        exact W.iret (v := z1) hx hb hr (fun t ht hW => u_ri (Option.some.inj hf) ht hW hP hK hD hS) hS.2.2 dX1_wrongColumns_44
      · have hf := gs_f hf hq
        refine lv_iconst (v := 0) hx hb dX1_wrongColumns_12 (by decide) ?_
        refine lv_istore_n (lv' := [(3, .int 0), (0, .ref (h 1)), (1, .int z1), (2, .int z2)]) hx hb dX1_wrongColumns_13 rfl hl (by decide) rfl (fun ls hl => ?_)
        exact L14 (fn_X1_wrongColumns_L4 T n) ih gs_fu z1 z2 0 σ _ _ _ hf hP hD hS (lv_sub hl [1, 2, 3, 0] rfl)
  have hl := lv_entry ([.ref (h 1)]) (n := 4) (Nat.le_of_ble_eq_true rfl)
  rw [lg_entry_eq]
  generalize (lg_sl ([.ref (h 1)]) ++ List.replicate (4 - (lg_sl ([.ref (h 1)])).length) Slot.unset).toArray = ls at hl ⊢
  have hl : lv_has ls 4 [(0, .ref (h 1))] := hl
  rw [fn_X1_wrongColumns] at hf
  refine lv_iconst (v := 0) hx hb dX1_wrongColumns_0 (by decide) ?_
  refine lv_istore_n (lv' := [(1, .int 0), (0, .ref (h 1))]) hx hb dX1_wrongColumns_1 rfl hl (by decide) rfl (fun ls hl => ?_)
  refine lv_iconst (v := 0) hx hb dX1_wrongColumns_2 (by decide) ?_
  refine lv_istore_n (lv' := [(2, .int 0), (1, .int 0), (0, .ref (h 1))]) hx hb dX1_wrongColumns_3 rfl hl (by decide) rfl (fun ls hl => ?_)
  exact L4 gs_fu 0 0 σ _ _ _ hf hP hD hS (lv_sub hl [2, 1, 0] rfl)
set_option maxHeartbeats 4000000 in
set_option maxRecDepth 100000 in
theorem ct_X1_brokenStripes (l : Launch) (dC : Nat → ClassId) (dI : Nat → Nat → Nat) (h : Nat → Nat) (k : Nat → ClassId) (T : Nat) (σ : gS) (sz : Nat) (y : Int32 × gS) (hf : fn_X1_brokenStripes T σ = some y) : Met l yX1_brokenStripes wsX1_brokenStripes ({ frames := 4, cells := 0, slots := 0, locals := 89 }) (va_Pc [.ref (h 1)] (uPre (dC, dI) vwCl (tA k) (wA h k T) zA σ sz)) (va_Qi (fun r u => (r, u) = y) (uAt (dC, dI) vwCl (tA k) (wA h k T) (va_A (wA h k T σ) sz)) (va_A (wA h k T σ) sz)) 0 0 (va_A (wA h k T σ) sz) := by
  refine Met.ofW (cc := cX1_brokenStripes) (maxL := 3) (ret := (some .int)) (by decide) rfl ?_
  intro p e s m args below meth c s₁ B hml hv
  obtain ⟨rfl, hsz, hP, hK, hD0, hZ⟩ := hv
  have hx := B.exec
  have hb := B.bytes
  have hr := B.returns
  have hts : ∀ w ∈ gG, w.before _ s = true := fun w h => atoms_spec (ws := wsX1_brokenStripes) B.pre w (List.mem_cons_of_mem _ h)
  have hown : s.vm.findClass RX1 = some m.cls := findClass_of_methodNamed B.named
  have hlocks := B.notSynchronized
  subst hsz
  have hD := hD0.self (sz := s.heap.size)
  generalize hAe : va_A (wA h k T σ) s.heap.size = A at hD hZ ⊢
  have hA : ∀ q : Nat, s.heap.size ≤ q → A q := fun q h => by rw [← hAe]; exact Or.inr h
  have hS : va_S A s.heap s.heap [] := va_S.rf
  obtain ⟨t0, hZ0, hT0, hN0⟩ := id hZ
  have L4 : ∀ (n : Nat), ∀ (z1 : Int32) (z2 : Int32) (σ : gS) (H : Heap) (locs : List Loc) (ls : Array Slot), fn_X1_brokenStripes_L4 T n z1 z2 σ = some y → va_P (dC, dI) vwCl (wA h k T σ) H → va_D A (wA h k T σ) → va_S A s.heap H locs → lv_has ls 3 [(0, .ref (h 1)), (1, .int z1), (2, .int z2)] → W p l e ({ frames := 4, cells := 0, slots := 0, locals := 89 }) s m ([.ref (h 1)] : List Value).toArray below meth c H locs 0 0 (MQ below (va_Qi (fun r u => (r, u) = y) (uAt (dC, dI) vwCl (tA k) (wA h k T) A) A) ([.ref (h 1)] : List Value).toArray s 0 0 A) (F0 m 4 ls []) := by
    intro n
    induction n with
    | zero => intro z1 z2 σ H locs ls hf; exact absurd hf (by rw [fn_X1_brokenStripes_L4]; exact nofun)
    | succ n ih =>
      intro z1 z2 σ H locs ls hf hP hD hS hl
      rw [fn_X1_brokenStripes_L4] at hf
      refine lv_iload_n hx hb dX1_brokenStripes_4 rfl (lv_at hl 2 rfl) ?_
      refine lv_aload_n hx hb dX1_brokenStripes_5 rfl (lv_at hl 0 rfl) ?_
      refine va_get (D := (dC, dI)) (ci := 1) (v := .int (σ 6 0)) (C := RX1) (T := TX1) (N := 7) hx hb hts inG_X1 hown hK hP 1 rfl rfl 0 (by decide) (hts _ mg_57) (fun _ h9 => h9) rfl dX1_brokenStripes_6 ?_
      refine lv_icmp_ge (tgt := 29) hx hb dX1_brokenStripes_9 (by decide) (fun hq => ?_) (fun hq => ?_)
      · have hf := gs_t hf hq
        refine lv_iload_n hx hb dX1_brokenStripes_29 rfl (lv_at hl 1 rfl) ?_
        exact W.iret (v := z1) hx hb hr (fun t ht hW => u_ri (Option.some.inj hf) ht hW hP hK hD hS) hS.2.2 dX1_brokenStripes_30
      · have hf := gs_f hf hq
        refine lv_aload_n hx hb dX1_brokenStripes_12 rfl (lv_at hl 0 rfl) ?_
        refine lv_iload_n hx hb dX1_brokenStripes_13 rfl (lv_at hl 2 rfl) ?_
        obtain ⟨r1, σ2, hc, hf⟩ := gs_ob_e hf
        have hF := u_free hD hS hA
        refine u_calli (va_runV (As := [.int z2]) (rest := []) ⟨hx, hb, hml, hown, hts⟩ (ct_X1_isBroken l dC dI h k T σ H.size z2 _ hc) (cwV 1 hts (gd_V mg_273 mg_153 mg_154 mg_34 mg_155) rfl rfl rfl (by decide +kernel) ⟨Nat.le_of_ble_eq_true rfl, Nat.le_of_ble_eq_true rfl⟩) (u_preV zA_g hK hP hD hS hF hZ (va_recv hK hP (ci := 1) (q0 := 1) rfl rfl)) rfl rfl hl.1 rfl (lv_room (Nat.le_of_ble_eq_true rfl)) dX1_brokenStripes_14 ⟨Nat.le_refl _, Nat.le_refl _⟩) hS hF (fun H locs hP hD hS => ?_)
        refine lv_if_eq (tgt := 23) hx hb dX1_brokenStripes_17 (by decide) (fun hq => ?_) (fun hq => ?_)
        · have hf := gs_t hf hq
          refine lv_iinc (v := z2 + 1) (lv' := [(2, .int (z2 + 1)), (0, .ref (h 1)), (1, .int z1)]) hx hb dX1_brokenStripes_23 hl (k := 2) rfl rfl (by decide) rfl (fun ls hl => ?_)
          refine lv_goto (tgt := 4) hx hb dX1_brokenStripes_26 (by decide) ?_
          exact ih z1 (z2 + 1) σ2 _ _ _ hf hP hD hS (lv_sub hl [1, 2, 0] rfl)
        · have hf := gs_f hf hq
          refine lv_iinc (v := z1 + 1) (lv' := [(1, .int (z1 + 1)), (0, .ref (h 1)), (2, .int z2)]) hx hb dX1_brokenStripes_20 hl (k := 1) rfl rfl (by decide) rfl (fun ls hl => ?_)
          refine lv_iinc (v := z2 + 1) (lv' := [(2, .int (z2 + 1)), (1, .int (z1 + 1)), (0, .ref (h 1))]) hx hb dX1_brokenStripes_23 hl (k := 2) rfl rfl (by decide) rfl (fun ls hl => ?_)
          refine lv_goto (tgt := 4) hx hb dX1_brokenStripes_26 (by decide) ?_
          exact ih (z1 + 1) (z2 + 1) σ2 _ _ _ hf hP hD hS (lv_sub hl [2, 1, 0] rfl)
  have hl := lv_entry ([.ref (h 1)]) (n := 3) (Nat.le_of_ble_eq_true rfl)
  rw [lg_entry_eq]
  generalize (lg_sl ([.ref (h 1)]) ++ List.replicate (3 - (lg_sl ([.ref (h 1)])).length) Slot.unset).toArray = ls at hl ⊢
  have hl : lv_has ls 3 [(0, .ref (h 1))] := hl
  rw [fn_X1_brokenStripes] at hf
  refine lv_iconst (v := 0) hx hb dX1_brokenStripes_0 (by decide) ?_
  refine lv_istore_n (lv' := [(1, .int 0), (0, .ref (h 1))]) hx hb dX1_brokenStripes_1 rfl hl (by decide) rfl (fun ls hl => ?_)
  refine lv_iconst (v := 0) hx hb dX1_brokenStripes_2 (by decide) ?_
  refine lv_istore_n (lv' := [(2, .int 0), (1, .int 0), (0, .ref (h 1))]) hx hb dX1_brokenStripes_3 rfl hl (by decide) rfl (fun ls hl => ?_)
  exact L4 gs_fu 0 0 σ _ _ _ hf hP hD hS (lv_sub hl [2, 1, 0] rfl)
set_option maxHeartbeats 4000000 in
set_option maxRecDepth 100000 in
theorem ct_X1_nextVisited (l : Launch) (dC : Nat → ClassId) (dI : Nat → Nat → Nat) (h : Nat → Nat) (k : Nat → ClassId) (T : Nat) (σ : gS) (sz : Nat) (y : Int32 × gS) (hf : fn_X1_nextVisited T σ = some y) : Met l yX1_nextVisited wsX1_nextVisited ({ frames := 0, cells := 0, slots := 0, locals := 0 }) (va_Pc [.ref (h 1)] (uPre (dC, dI) vwCl (tA k) (wA h k T) zA σ sz)) (va_Qi (fun r u => (r, u) = y) (uAt (dC, dI) vwCl (tA k) (wA h k T) (va_A (wA h k T σ) sz)) (va_A (wA h k T σ) sz)) 0 0 (va_A (wA h k T σ) sz) := by
  refine Met.ofW (cc := cX1_nextVisited) (maxL := 1) (ret := (some .int)) (by decide) rfl ?_
  intro p e s m args below meth c s₁ B hml hv
  obtain ⟨rfl, hsz, hP, hK, hD0, hZ⟩ := hv
  have hx := B.exec
  have hb := B.bytes
  have hr := B.returns
  have hts : ∀ w ∈ gG, w.before _ s = true := fun w h => atoms_spec (ws := wsX1_nextVisited) B.pre w (List.mem_cons_of_mem _ h)
  have hown : s.vm.findClass RX1 = some m.cls := findClass_of_methodNamed B.named
  have hlocks := B.notSynchronized
  subst hsz
  have hD := hD0.self (sz := s.heap.size)
  generalize hAe : va_A (wA h k T σ) s.heap.size = A at hD hZ ⊢
  have hA : ∀ q : Nat, s.heap.size ≤ q → A q := fun q h => by rw [← hAe]; exact Or.inr h
  have hS : va_S A s.heap s.heap [] := va_S.rf
  obtain ⟨t0, hZ0, hT0, hN0⟩ := id hZ
  have hl := lv_entry ([.ref (h 1)]) (n := 1) (Nat.le_of_ble_eq_true rfl)
  rw [lg_entry_eq]
  generalize (lg_sl ([.ref (h 1)]) ++ List.replicate (1 - (lg_sl ([.ref (h 1)])).length) Slot.unset).toArray = ls at hl ⊢
  have hl : lv_has ls 1 [(0, .ref (h 1))] := hl
  rw [fn_X1_nextVisited] at hf
  refine lv_aload_n hx hb dX1_nextVisited_0 rfl (lv_at hl 0 rfl) ?_
  refine va_get (D := (dC, dI)) (ci := 1) (v := .int (σ 5 0)) (C := RX1) (T := TX1) (N := 7) hx hb hts inG_X1 hown hK hP 1 rfl rfl 6 (by decide) (hts _ mg_63) (fun _ h9 => h9) rfl dX1_nextVisited_1 ?_
  exact W.iret (v := σ 5 0) hx hb hr (fun t ht hW => u_ri (Option.some.inj hf) ht hW hP hK hD hS) hS.2.2 dX1_nextVisited_4
set_option maxHeartbeats 4000000 in
set_option maxRecDepth 100000 in
theorem ct_X0_freeRuns (l : Launch) (dC : Nat → ClassId) (dI : Nat → Nat → Nat) (h : Nat → Nat) (k : Nat → ClassId) (T : Nat) (σ : gS) (sz : Nat) (y : Int32 × gS) (hf : fn_X0_freeRuns T σ = some y) : Met l yX0_freeRuns wsX0_freeRuns ({ frames := 1, cells := 0, slots := 0, locals := 21 }) (va_Pc [.ref (h 7)] (uPre (dC, dI) vwCl (tA k) (wA h k T) zA σ sz)) (va_Qi (fun r u => (r, u) = y) (uAt (dC, dI) vwCl (tA k) (wA h k T) (va_A (wA h k T σ) sz)) (va_A (wA h k T σ) sz)) 0 0 (va_A (wA h k T σ) sz) := by
  refine Met.ofW (cc := cX0_freeRuns) (maxL := 3) (ret := (some .int)) (by decide) rfl ?_
  intro p e s m args below meth c s₁ B hml hv
  obtain ⟨rfl, hsz, hP, hK, hD0, hZ⟩ := hv
  have hx := B.exec
  have hb := B.bytes
  have hr := B.returns
  have hts : ∀ w ∈ gG, w.before _ s = true := fun w h => atoms_spec (ws := wsX0_freeRuns) B.pre w (List.mem_cons_of_mem _ h)
  have hown : s.vm.findClass RX0 = some m.cls := findClass_of_methodNamed B.named
  have hlocks := B.notSynchronized
  subst hsz
  have hD := hD0.self (sz := s.heap.size)
  generalize hAe : va_A (wA h k T σ) s.heap.size = A at hD hZ ⊢
  have hA : ∀ q : Nat, s.heap.size ≤ q → A q := fun q h => by rw [← hAe]; exact Or.inr h
  have hS : va_S A s.heap s.heap [] := va_S.rf
  obtain ⟨t0, hZ0, hT0, hN0⟩ := id hZ
  have L4 : ∀ (n : Nat), ∀ (z1 : Int32) (z2 : Int32) (σ : gS) (H : Heap) (locs : List Loc) (ls : Array Slot), fn_X0_freeRuns_L4 T n z1 z2 σ = some y → va_P (dC, dI) vwCl (wA h k T σ) H → va_D A (wA h k T σ) → va_S A s.heap H locs → lv_has ls 3 [(0, .ref (h 7)), (1, .int z1), (2, .int z2)] → W p l e ({ frames := 1, cells := 0, slots := 0, locals := 21 }) s m ([.ref (h 7)] : List Value).toArray below meth c H locs 0 0 (MQ below (va_Qi (fun r u => (r, u) = y) (uAt (dC, dI) vwCl (tA k) (wA h k T) A) A) ([.ref (h 7)] : List Value).toArray s 0 0 A) (F0 m 4 ls []) := by
    intro n
    induction n with
    | zero => intro z1 z2 σ H locs ls hf; exact absurd hf (by rw [fn_X0_freeRuns_L4]; exact nofun)
    | succ n ih =>
      intro z1 z2 σ H locs ls hf hP hD hS hl
      rw [fn_X0_freeRuns_L4] at hf
      refine lv_iload_n hx hb dX0_freeRuns_4 rfl (lv_at hl 2 rfl) ?_
      refine lv_aload_n hx hb dX0_freeRuns_5 rfl (lv_at hl 0 rfl) ?_
      refine va_get (D := (dC, dI)) (ci := 0) (v := .ref (h 8)) (C := RX0) (T := TX0) (N := 5) hx hb hts inG_X0 hown hK hP 7 rfl rfl 0 (by decide) (hts _ mg_72) (fun _ h9 => h9) rfl dX0_freeRuns_6 ?_
      refine va_alen (v := nI (3 * T)) hx hb hK hP 8 5 rfl rfl rfl dX0_freeRuns_9 ?_
      refine lv_icmp_ge (tgt := 30) hx hb dX0_freeRuns_10 (by decide) (fun hq => ?_) (fun hq => ?_)
      · have hf := gs_t hf hq
        refine lv_iload_n hx hb dX0_freeRuns_30 rfl (lv_at hl 1 rfl) ?_
        exact W.iret (v := z1) hx hb hr (fun t ht hW => u_ri (Option.some.inj hf) ht hW hP hK hD hS) hS.2.2 dX0_freeRuns_31
      · have hf := gs_f hf hq
        refine lv_aload_n hx hb dX0_freeRuns_13 rfl (lv_at hl 0 rfl) ?_
        refine lv_iload_n hx hb dX0_freeRuns_14 rfl (lv_at hl 2 rfl) ?_
        obtain ⟨r1, σ2, hc, hf⟩ := gs_ob_e hf
        have hF := u_free hD hS hA
        refine u_calli (va_runV (As := [.int z2]) (rest := []) ⟨hx, hb, hml, hown, hts⟩ (ct_X0_startsRun l dC dI h k T σ H.size z2 _ hc) (cwV 1 hts (gd_V mg_97 mg_98 mg_1 mg_35 mg_99) rfl rfl rfl (by decide +kernel) ⟨Nat.le_of_ble_eq_true rfl, Nat.le_of_ble_eq_true rfl⟩) (u_preV zA_g hK hP hD hS hF hZ (va_recv hK hP (ci := 0) (q0 := 7) rfl rfl)) rfl rfl hl.1 rfl (lv_room (Nat.le_of_ble_eq_true rfl)) dX0_freeRuns_15 ⟨Nat.le_refl _, Nat.le_refl _⟩) hS hF (fun H locs hP hD hS => ?_)
        refine lv_if_eq (tgt := 24) hx hb dX0_freeRuns_18 (by decide) (fun hq => ?_) (fun hq => ?_)
        · have hf := gs_t hf hq
          refine lv_iinc (v := z2 + 1) (lv' := [(2, .int (z2 + 1)), (0, .ref (h 7)), (1, .int z1)]) hx hb dX0_freeRuns_24 hl (k := 2) rfl rfl (by decide) rfl (fun ls hl => ?_)
          refine lv_goto (tgt := 4) hx hb dX0_freeRuns_27 (by decide) ?_
          exact ih z1 (z2 + 1) σ2 _ _ _ hf hP hD hS (lv_sub hl [1, 2, 0] rfl)
        · have hf := gs_f hf hq
          refine lv_iinc (v := z1 + 1) (lv' := [(1, .int (z1 + 1)), (0, .ref (h 7)), (2, .int z2)]) hx hb dX0_freeRuns_21 hl (k := 1) rfl rfl (by decide) rfl (fun ls hl => ?_)
          refine lv_iinc (v := z2 + 1) (lv' := [(2, .int (z2 + 1)), (1, .int (z1 + 1)), (0, .ref (h 7))]) hx hb dX0_freeRuns_24 hl (k := 2) rfl rfl (by decide) rfl (fun ls hl => ?_)
          refine lv_goto (tgt := 4) hx hb dX0_freeRuns_27 (by decide) ?_
          exact ih (z1 + 1) (z2 + 1) σ2 _ _ _ hf hP hD hS (lv_sub hl [2, 1, 0] rfl)
  have hl := lv_entry ([.ref (h 7)]) (n := 3) (Nat.le_of_ble_eq_true rfl)
  rw [lg_entry_eq]
  generalize (lg_sl ([.ref (h 7)]) ++ List.replicate (3 - (lg_sl ([.ref (h 7)])).length) Slot.unset).toArray = ls at hl ⊢
  have hl : lv_has ls 3 [(0, .ref (h 7))] := hl
  rw [fn_X0_freeRuns] at hf
  refine lv_iconst (v := 0) hx hb dX0_freeRuns_0 (by decide) ?_
  refine lv_istore_n (lv' := [(1, .int 0), (0, .ref (h 7))]) hx hb dX0_freeRuns_1 rfl hl (by decide) rfl (fun ls hl => ?_)
  refine lv_iconst (v := 0) hx hb dX0_freeRuns_2 (by decide) ?_
  refine lv_istore_n (lv' := [(2, .int 0), (1, .int 0), (0, .ref (h 7))]) hx hb dX0_freeRuns_3 rfl hl (by decide) rfl (fun ls hl => ?_)
  exact L4 gs_fu 0 0 σ _ _ _ hf hP hD hS (lv_sub hl [2, 1, 0] rfl)
set_option maxHeartbeats 4000000 in
set_option maxRecDepth 100000 in
theorem ct_X2_count (l : Launch) (dC : Nat → ClassId) (dI : Nat → Nat → Nat) (h : Nat → Nat) (k : Nat → ClassId) (T : Nat) (σ : gS) (sz : Nat) (x1 : Int32) (y : Int32 × gS) (hf : fn_X2_count T x1 σ = some y) : Met l yX2_count wsX2_count ({ frames := 5, cells := 0, slots := 0, locals := 111 }) (va_Pc [.ref (h 0), .int x1] (uPre (dC, dI) vwCl (tA k) (wA h k T) zA σ sz)) (va_Qi (fun r u => (r, u) = y) (uAt (dC, dI) vwCl (tA k) (wA h k T) (va_A (wA h k T σ) sz)) (va_A (wA h k T σ) sz)) 0 0 (va_A (wA h k T σ) sz) := by
  refine Met.ofW (cc := cX2_count) (maxL := 2) (ret := (some .int)) (by decide) rfl ?_
  intro p e s m args below meth c s₁ B hml hv
  obtain ⟨rfl, hsz, hP, hK, hD0, hZ⟩ := hv
  have hx := B.exec
  have hb := B.bytes
  have hr := B.returns
  have hts : ∀ w ∈ gG, w.before _ s = true := fun w h => atoms_spec (ws := wsX2_count) B.pre w (List.mem_cons_of_mem _ h)
  have hown : s.vm.findClass RX2 = some m.cls := findClass_of_methodNamed B.named
  have hlocks := B.notSynchronized
  subst hsz
  have hD := hD0.self (sz := s.heap.size)
  generalize hAe : va_A (wA h k T σ) s.heap.size = A at hD hZ ⊢
  have hA : ∀ q : Nat, s.heap.size ≤ q → A q := fun q h => by rw [← hAe]; exact Or.inr h
  have hS : va_S A s.heap s.heap [] := va_S.rf
  obtain ⟨t0, hZ0, hT0, hN0⟩ := id hZ
  have hl := lv_entry ([.ref (h 0), .int x1]) (n := 2) (Nat.le_of_ble_eq_true rfl)
  rw [lg_entry_eq]
  generalize (lg_sl ([.ref (h 0), .int x1]) ++ List.replicate (2 - (lg_sl ([.ref (h 0), .int x1])).length) Slot.unset).toArray = ls at hl ⊢
  have hl : lv_has ls 2 [(0, .ref (h 0)), (1, .int x1)] := hl
  rw [fn_X2_count] at hf
  refine lv_iload_n hx hb dX2_count_0 rfl (lv_at hl 1 rfl) ?_
  by_cases hq0 : x1 = 0
  · have hf := gs_t hf hq0
    refine lv_tableIn (tgt := 44) hx hb dX2_count_1 (by rw [hq0]; decide) (by rw [hq0]; decide) (by rw [hq0]; rfl) (by decide) ?_
    refine lv_aload_n hx hb dX2_count_44 rfl (lv_at hl 0 rfl) ?_
    refine va_get (D := (dC, dI)) (ci := 2) (v := .ref (h 7)) (C := RX2) (T := TX2) (N := 2) hx hb hts inG_X2 hown hK hP 0 rfl rfl 1 (by decide) (hts _ mg_78) (fun _ h9 => h9) rfl dX2_count_45 ?_
    obtain ⟨r1, σ2, hc, hf⟩ := gs_ob_e hf
    have hF := u_free hD hS hA
    refine u_calli (va_runV (As := []) (rest := []) ⟨hx, hb, hml, hown, hts⟩ (ct_X0_freeBlocks l dC dI h k T σ s.heap.size _ hc) (cwV 0 hts (gd_V mg_328 mg_329 mg_330 mg_35 mg_331) rfl rfl rfl (by decide +kernel) ⟨Nat.le_of_ble_eq_true rfl, Nat.le_of_ble_eq_true rfl⟩) (u_preV zA_g hK hP hD hS hF hZ (va_recv hK hP (ci := 0) (q0 := 7) rfl rfl)) rfl rfl hl.1 rfl (lv_room (Nat.le_of_ble_eq_true rfl)) dX2_count_48 ⟨Nat.le_refl _, Nat.le_refl _⟩) hS hF (fun H locs hP hD hS => ?_)
    exact W.iret (v := r1) hx hb hr (fun t ht hW => u_ri (Option.some.inj hf) ht hW hP hK hD hS) hS.2.2 dX2_count_51
  · have hf := gs_f hf hq0
    by_cases hq1 : x1 = 1
    · have hf := gs_t hf hq1
      refine lv_tableIn (tgt := 52) hx hb dX2_count_1 (by rw [hq1]; decide) (by rw [hq1]; decide) (by rw [hq1]; rfl) (by decide) ?_
      refine lv_aload_n hx hb dX2_count_52 rfl (lv_at hl 0 rfl) ?_
      refine va_get (D := (dC, dI)) (ci := 2) (v := .ref (h 7)) (C := RX2) (T := TX2) (N := 2) hx hb hts inG_X2 hown hK hP 0 rfl rfl 1 (by decide) (hts _ mg_78) (fun _ h9 => h9) rfl dX2_count_53 ?_
      obtain ⟨r3, σ4, hc, hf⟩ := gs_ob_e hf
      have hF := u_free hD hS hA
      refine u_calli (va_runV (As := []) (rest := []) ⟨hx, hb, hml, hown, hts⟩ (ct_X0_longestRunLength l dC dI h k T σ s.heap.size _ hc) (cwV 0 hts (gd_V mg_332 mg_333 mg_334 mg_35 mg_335) rfl rfl rfl (by decide +kernel) ⟨Nat.le_of_ble_eq_true rfl, Nat.le_of_ble_eq_true rfl⟩) (u_preV zA_g hK hP hD hS hF hZ (va_recv hK hP (ci := 0) (q0 := 7) rfl rfl)) rfl rfl hl.1 rfl (lv_room (Nat.le_of_ble_eq_true rfl)) dX2_count_56 ⟨Nat.le_refl _, Nat.le_refl _⟩) hS hF (fun H locs hP hD hS => ?_)
      exact W.iret (v := r3) hx hb hr (fun t ht hW => u_ri (Option.some.inj hf) ht hW hP hK hD hS) hS.2.2 dX2_count_59
    · have hf := gs_f hf hq1
      by_cases hq2 : x1 = 2
      · have hf := gs_t hf hq2
        refine lv_tableIn (tgt := 60) hx hb dX2_count_1 (by rw [hq2]; decide) (by rw [hq2]; decide) (by rw [hq2]; rfl) (by decide) ?_
        refine lv_aload_n hx hb dX2_count_60 rfl (lv_at hl 0 rfl) ?_
        refine va_get (D := (dC, dI)) (ci := 2) (v := .ref (h 1)) (C := RX2) (T := TX2) (N := 2) hx hb hts inG_X2 hown hK hP 0 rfl rfl 0 (by decide) (hts _ mg_77) (fun _ h9 => h9) rfl dX2_count_61 ?_
        obtain ⟨r5, σ6, hc, hf⟩ := gs_ob_e hf
        have hF := u_free hD hS hA
        refine u_calli (va_runV (As := []) (rest := []) ⟨hx, hb, hml, hown, hts⟩ (ct_X1_lostColumns l dC dI h k T σ s.heap.size _ hc) (cwV 0 hts (gd_V mg_336 mg_337 mg_338 mg_34 mg_339) rfl rfl rfl (by decide +kernel) ⟨Nat.le_of_ble_eq_true rfl, Nat.le_of_ble_eq_true rfl⟩) (u_preV zA_g hK hP hD hS hF hZ (va_recv hK hP (ci := 1) (q0 := 1) rfl rfl)) rfl rfl hl.1 rfl (lv_room (Nat.le_of_ble_eq_true rfl)) dX2_count_64 ⟨Nat.le_refl _, Nat.le_refl _⟩) hS hF (fun H locs hP hD hS => ?_)
        exact W.iret (v := r5) hx hb hr (fun t ht hW => u_ri (Option.some.inj hf) ht hW hP hK hD hS) hS.2.2 dX2_count_67
      · have hf := gs_f hf hq2
        by_cases hq3 : x1 = 3
        · have hf := gs_t hf hq3
          refine lv_tableIn (tgt := 68) hx hb dX2_count_1 (by rw [hq3]; decide) (by rw [hq3]; decide) (by rw [hq3]; rfl) (by decide) ?_
          refine lv_aload_n hx hb dX2_count_68 rfl (lv_at hl 0 rfl) ?_
          refine va_get (D := (dC, dI)) (ci := 2) (v := .ref (h 1)) (C := RX2) (T := TX2) (N := 2) hx hb hts inG_X2 hown hK hP 0 rfl rfl 0 (by decide) (hts _ mg_77) (fun _ h9 => h9) rfl dX2_count_69 ?_
          obtain ⟨r7, σ8, hc, hf⟩ := gs_ob_e hf
          have hF := u_free hD hS hA
          refine u_calli (va_runV (As := []) (rest := []) ⟨hx, hb, hml, hown, hts⟩ (ct_X1_wrongColumns l dC dI h k T σ s.heap.size _ hc) (cwV 0 hts (gd_V mg_340 mg_341 mg_342 mg_34 mg_343) rfl rfl rfl (by decide +kernel) ⟨Nat.le_of_ble_eq_true rfl, Nat.le_of_ble_eq_true rfl⟩) (u_preV zA_g hK hP hD hS hF hZ (va_recv hK hP (ci := 1) (q0 := 1) rfl rfl)) rfl rfl hl.1 rfl (lv_room (Nat.le_of_ble_eq_true rfl)) dX2_count_72 ⟨Nat.le_refl _, Nat.le_refl _⟩) hS hF (fun H locs hP hD hS => ?_)
          exact W.iret (v := r7) hx hb hr (fun t ht hW => u_ri (Option.some.inj hf) ht hW hP hK hD hS) hS.2.2 dX2_count_75
        · have hf := gs_f hf hq3
          by_cases hq4 : x1 = 4
          · have hf := gs_t hf hq4
            refine lv_tableIn (tgt := 76) hx hb dX2_count_1 (by rw [hq4]; decide) (by rw [hq4]; decide) (by rw [hq4]; rfl) (by decide) ?_
            refine lv_aload_n hx hb dX2_count_76 rfl (lv_at hl 0 rfl) ?_
            refine va_get (D := (dC, dI)) (ci := 2) (v := .ref (h 1)) (C := RX2) (T := TX2) (N := 2) hx hb hts inG_X2 hown hK hP 0 rfl rfl 0 (by decide) (hts _ mg_77) (fun _ h9 => h9) rfl dX2_count_77 ?_
            obtain ⟨r9, σ10, hc, hf⟩ := gs_ob_e hf
            have hF := u_free hD hS hA
            refine u_calli (va_runV (As := []) (rest := []) ⟨hx, hb, hml, hown, hts⟩ (ct_X1_brokenStripes l dC dI h k T σ s.heap.size _ hc) (cwV 0 hts (gd_V mg_344 mg_345 mg_346 mg_34 mg_347) rfl rfl rfl (by decide +kernel) ⟨Nat.le_of_ble_eq_true rfl, Nat.le_of_ble_eq_true rfl⟩) (u_preV zA_g hK hP hD hS hF hZ (va_recv hK hP (ci := 1) (q0 := 1) rfl rfl)) rfl rfl hl.1 rfl (lv_room (Nat.le_of_ble_eq_true rfl)) dX2_count_80 ⟨Nat.le_refl _, Nat.le_refl _⟩) hS hF (fun H locs hP hD hS => ?_)
            exact W.iret (v := r9) hx hb hr (fun t ht hW => u_ri (Option.some.inj hf) ht hW hP hK hD hS) hS.2.2 dX2_count_83
          · have hf := gs_f hf hq4
            by_cases hq5 : x1 = 5
            · have hf := gs_t hf hq5
              refine lv_tableIn (tgt := 84) hx hb dX2_count_1 (by rw [hq5]; decide) (by rw [hq5]; decide) (by rw [hq5]; rfl) (by decide) ?_
              refine lv_aload_n hx hb dX2_count_84 rfl (lv_at hl 0 rfl) ?_
              refine va_get (D := (dC, dI)) (ci := 2) (v := .ref (h 1)) (C := RX2) (T := TX2) (N := 2) hx hb hts inG_X2 hown hK hP 0 rfl rfl 0 (by decide) (hts _ mg_77) (fun _ h9 => h9) rfl dX2_count_85 ?_
              obtain ⟨r11, σ12, hc, hf⟩ := gs_ob_e hf
              have hF := u_free hD hS hA
              refine u_calli (va_runV (As := []) (rest := []) ⟨hx, hb, hml, hown, hts⟩ (ct_X1_nextVisited l dC dI h k T σ s.heap.size _ hc) (cwV 0 hts (gd_V mg_348 mg_349 mg_350 mg_34 mg_351) rfl rfl rfl (by decide +kernel) ⟨Nat.le_of_ble_eq_true rfl, Nat.le_of_ble_eq_true rfl⟩) (u_preV zA_g hK hP hD hS hF hZ (va_recv hK hP (ci := 1) (q0 := 1) rfl rfl)) rfl rfl hl.1 rfl (lv_room (Nat.le_of_ble_eq_true rfl)) dX2_count_88 ⟨Nat.le_refl _, Nat.le_refl _⟩) hS hF (fun H locs hP hD hS => ?_)
              exact W.iret (v := r11) hx hb hr (fun t ht hW => u_ri (Option.some.inj hf) ht hW hP hK hD hS) hS.2.2 dX2_count_91
            · have hf := gs_f hf hq5
              by_cases hq6 : x1 = 6
              · have hf := gs_t hf hq6
                refine lv_tableIn (tgt := 92) hx hb dX2_count_1 (by rw [hq6]; decide) (by rw [hq6]; decide) (by rw [hq6]; rfl) (by decide) ?_
                refine lv_aload_n hx hb dX2_count_92 rfl (lv_at hl 0 rfl) ?_
                refine va_get (D := (dC, dI)) (ci := 2) (v := .ref (h 7)) (C := RX2) (T := TX2) (N := 2) hx hb hts inG_X2 hown hK hP 0 rfl rfl 1 (by decide) (hts _ mg_78) (fun _ h9 => h9) rfl dX2_count_93 ?_
                obtain ⟨r13, σ14, hc, hf⟩ := gs_ob_e hf
                have hF := u_free hD hS hA
                refine u_calli (va_runV (As := []) (rest := []) ⟨hx, hb, hml, hown, hts⟩ (ct_X0_freeRuns l dC dI h k T σ s.heap.size _ hc) (cwV 0 hts (gd_V mg_352 mg_353 mg_354 mg_35 mg_355) rfl rfl rfl (by decide +kernel) ⟨Nat.le_of_ble_eq_true rfl, Nat.le_of_ble_eq_true rfl⟩) (u_preV zA_g hK hP hD hS hF hZ (va_recv hK hP (ci := 0) (q0 := 7) rfl rfl)) rfl rfl hl.1 rfl (lv_room (Nat.le_of_ble_eq_true rfl)) dX2_count_96 ⟨Nat.le_refl _, Nat.le_refl _⟩) hS hF (fun H locs hP hD hS => ?_)
                exact W.iret (v := r13) hx hb hr (fun t ht hW => u_ri (Option.some.inj hf) ht hW hP hK hD hS) hS.2.2 dX2_count_99
              · have hf := gs_f hf hq6
                have hn0 := lv_neT hq0 (a := 0) (by decide)
                have hn1 := lv_neT hq1 (a := 1) (by decide)
                have hn2 := lv_neT hq2 (a := 2) (by decide)
                have hn3 := lv_neT hq3 (a := 3) (by decide)
                have hn4 := lv_neT hq4 (a := 4) (by decide)
                have hn5 := lv_neT hq5 (a := 5) (by decide)
                have hn6 := lv_neT hq6 (a := 6) (by decide)
                refine lv_tableOut (tgt := 100) hx hb dX2_count_1 (by omega) (by decide) ?_
                refine lv_iconst (v := (-1)) hx hb dX2_count_100 (by decide) ?_
                exact W.iret (v := (-1)) hx hb hr (fun t ht hW => u_ri (Option.some.inj hf) ht hW hP hK hD hS) hS.2.2 dX2_count_101
