set_option maxHeartbeats 4000000 in
set_option maxRecDepth 100000 in
theorem ct_X3_broken (l : Launch) (dC : Nat → ClassId) (dI : Nat → Nat → Nat) (h : Nat → Nat) (k : Nat → ClassId) (T : Nat) (σ : gS) (sz : Nat) (x1 : Int32) (y : Int32 × gS) (hf : fn_X3_broken T x1 σ = some y) : Met l yX3_broken wsX3_broken ({ frames := 1, cells := 0, slots := 0, locals := 21 }) (va_Pc [.ref (h 0), .int x1] (uPre (dC, dI) vwCl (tB k) (wB h k T) zB σ sz)) (va_Qi (fun r u => (r, u) = y) (uAt (dC, dI) vwCl (tB k) (wB h k T) (va_A (wB h k T σ) sz)) (va_A (wB h k T σ) sz)) 0 0 (va_A (wB h k T σ) sz) := by
  refine Met.ofW (cc := cX3_broken) (maxL := 4) (ret := (some .boolean)) (by decide) rfl ?_
  intro p e s m args below meth c s₁ B hml hv
  obtain ⟨rfl, hsz, hP, hK, hD0, hZ⟩ := hv
  have hx := B.exec
  have hb := B.bytes
  have hr := B.returns
  have hts : ∀ w ∈ gG, w.before _ s = true := fun w h => atoms_spec (ws := wsX3_broken) B.pre w (List.mem_cons_of_mem _ h)
  have hown : s.vm.findClass RX3 = some m.cls := findClass_of_methodNamed B.named
  have hlocks := B.notSynchronized
  subst hsz
  have hD := hD0.self (sz := s.heap.size)
  generalize hAe : va_A (wB h k T σ) s.heap.size = A at hD hZ ⊢
  have hA : ∀ q : Nat, s.heap.size ≤ q → A q := fun q h => by rw [← hAe]; exact Or.inr h
  have hS : va_S A s.heap s.heap [] := va_S.rf
  have L6 : ∀ (n : Nat), ∀ (z1 : Int32) (z2 : Int32) (z3 : Int32) (σ : gS) (H : Heap) (locs : List Loc) (ls : Array Slot), fn_X3_broken_L6 T n z1 z2 z3 σ = some y → va_P (dC, dI) vwCl (wB h k T σ) H → va_D A (wB h k T σ) → va_S A s.heap H locs → lv_has ls 4 [(0, .ref (h 0)), (1, .int z1), (2, .int z2), (3, .int z3)] → W p l e ({ frames := 1, cells := 0, slots := 0, locals := 21 }) s m ([.ref (h 0), .int x1] : List Value).toArray below meth c H locs 0 0 (MQ below (va_Qi (fun r u => (r, u) = y) (uAt (dC, dI) vwCl (tB k) (wB h k T) A) A) ([.ref (h 0), .int x1] : List Value).toArray s 0 0 A) (F0 m 6 ls []) := by
    intro n
    induction n with
    | zero => intro z1 z2 z3 σ H locs ls hf; exact absurd hf (by rw [fn_X3_broken_L6]; exact nofun)
    | succ n ih =>
      intro z1 z2 z3 σ H locs ls hf hP hD hS hl
      rw [fn_X3_broken_L6] at hf
      refine lv_iload_n hx hb dX3_broken_6 rfl (lv_at hl 3 rfl) ?_
      refine lv_iconst (v := 4) hx hb dX3_broken_7 (by decide) ?_
      refine lv_iload_n hx hb dX3_broken_8 rfl (lv_at hl 1 rfl) ?_
      refine lv_imul hx hb dX3_broken_9 ?_
      refine lv_iconst (v := 4) hx hb dX3_broken_10 (by decide) ?_
      refine lv_iadd hx hb dX3_broken_11 ?_
      refine lv_icmp_ge (tgt := 41) hx hb dX3_broken_12 (by decide) (fun hq => ?_) (fun hq => ?_)
      · have hf := gs_t hf hq
        refine lv_iload_n hx hb dX3_broken_41 rfl (lv_at hl 2 rfl) ?_
        refine lv_iconst (v := 1) hx hb dX3_broken_42 (by decide) ?_
        refine lv_icmp_le (tgt := 50) hx hb dX3_broken_43 (by decide) (fun hq => ?_) (fun hq => ?_)
        · have hf := gs_t hf hq
          refine lv_iconst (v := 0) hx hb dX3_broken_50 (by decide) ?_
          exact W.zret (v := 0) (ty := .boolean) hx hb hr rfl (fun t ht hW => u_ri (Option.some.inj hf) ht hW hP hK hD hS) hS.2.2 dX3_broken_51
        · have hf := gs_f hf hq
          refine lv_iconst (v := 1) hx hb dX3_broken_46 (by decide) ?_
          refine lv_goto (tgt := 51) hx hb dX3_broken_47 (by decide) ?_
          exact W.zret (v := 1) (ty := .boolean) hx hb hr rfl (fun t ht hW => u_ri (Option.some.inj hf) ht hW hP hK hD hS) hS.2.2 dX3_broken_51
      · have hf := gs_f hf hq
        refine lv_aload_n hx hb dX3_broken_15 rfl (lv_at hl 0 rfl) ?_
        refine va_get (D := (dC, dI)) (ci := 3) (v := .ref (h 3)) (C := RX3) (T := TX3) (N := 11) hx hb hts inG_X3 hown hK hP 0 rfl rfl 3 (by decide) (hts _ mg_368) (fun _ h9 => h9) rfl dX3_broken_16 ?_
        refine lv_iload_n hx hb dX3_broken_19 rfl (lv_at hl 3 rfl) ?_
        obtain ⟨hin, hf⟩ := gs_gd_e hf
        refine va_zald hx hb hK hP 3 2 rfl rfl hin dX3_broken_20 ?_
        refine lv_if_ne (tgt := 32) hx hb dX3_broken_21 (by decide) (fun hq => ?_) (fun hq => ?_)
        · have hf := gs_f hf hq
          refine lv_iinc (v := z2 + 1) (lv' := [(2, .int (z2 + 1)), (0, .ref (h 0)), (1, .int z1), (3, .int z3)]) hx hb dX3_broken_32 hl (k := 2) rfl rfl (by decide) rfl (fun ls hl => ?_)
          refine lv_iinc (v := z3 + 1) (lv' := [(3, .int (z3 + 1)), (2, .int (z2 + 1)), (0, .ref (h 0)), (1, .int z1)]) hx hb dX3_broken_35 hl (k := 3) rfl rfl (by decide) rfl (fun ls hl => ?_)
          refine lv_goto (tgt := 6) hx hb dX3_broken_38 (by decide) ?_
          exact ih z1 (z2 + 1) (z3 + 1) σ _ _ _ hf hP hD hS (lv_sub hl [2, 3, 1, 0] rfl)
        · have hf := gs_t hf hq
          refine lv_aload_n hx hb dX3_broken_24 rfl (lv_at hl 0 rfl) ?_
          refine lv_iload_n hx hb dX3_broken_25 rfl (lv_at hl 3 rfl) ?_
          obtain ⟨r1, σ2, hc, hf⟩ := gs_ob_e hf
          have hF := u_free hD hS hA
          refine u_calli (va_runV (As := [.int z3]) (rest := []) ⟨hx, hb, hml, hown, hts⟩ (ct_X3_wrong l dC dI h k T σ H.size z3 _ hc) (cwV 1 hts (gd_V mg_410 mg_411 mg_20 mg_36 mg_412) rfl rfl rfl (by decide +kernel) ⟨Nat.le_of_ble_eq_true rfl, Nat.le_of_ble_eq_true rfl⟩) (u_preV zB_g hK hP hD hS hF hZ (va_recv hK hP (ci := 3) (q0 := 0) rfl rfl)) rfl rfl hl.1 rfl (lv_room (Nat.le_of_ble_eq_true rfl)) dX3_broken_26 ⟨Nat.le_refl _, Nat.le_refl _⟩) hS hF (fun H locs hP hD hS => ?_)
          refine lv_if_eq (tgt := 35) hx hb dX3_broken_29 (by decide) (fun hq => ?_) (fun hq => ?_)
          · have hf := gs_t hf hq
            refine lv_iinc (v := z3 + 1) (lv' := [(3, .int (z3 + 1)), (0, .ref (h 0)), (1, .int z1), (2, .int z2)]) hx hb dX3_broken_35 hl (k := 3) rfl rfl (by decide) rfl (fun ls hl => ?_)
            refine lv_goto (tgt := 6) hx hb dX3_broken_38 (by decide) ?_
            exact ih z1 z2 (z3 + 1) σ2 _ _ _ hf hP hD hS (lv_sub hl [1, 2, 3, 0] rfl)
          · have hf := gs_f hf hq
            refine lv_iinc (v := z2 + 1) (lv' := [(2, .int (z2 + 1)), (0, .ref (h 0)), (1, .int z1), (3, .int z3)]) hx hb dX3_broken_32 hl (k := 2) rfl rfl (by decide) rfl (fun ls hl => ?_)
            refine lv_iinc (v := z3 + 1) (lv' := [(3, .int (z3 + 1)), (2, .int (z2 + 1)), (0, .ref (h 0)), (1, .int z1)]) hx hb dX3_broken_35 hl (k := 3) rfl rfl (by decide) rfl (fun ls hl => ?_)
            refine lv_goto (tgt := 6) hx hb dX3_broken_38 (by decide) ?_
            exact ih z1 (z2 + 1) (z3 + 1) σ2 _ _ _ hf hP hD hS (lv_sub hl [2, 3, 1, 0] rfl)
  have hl := lv_entry ([.ref (h 0), .int x1]) (n := 4) (Nat.le_of_ble_eq_true rfl)
  rw [lg_entry_eq]
  generalize (lg_sl ([.ref (h 0), .int x1]) ++ List.replicate (4 - (lg_sl ([.ref (h 0), .int x1])).length) Slot.unset).toArray = ls at hl ⊢
  have hl : lv_has ls 4 [(0, .ref (h 0)), (1, .int x1)] := hl
  rw [fn_X3_broken] at hf
  refine lv_iconst (v := 0) hx hb dX3_broken_0 (by decide) ?_
  refine lv_istore_n (lv' := [(2, .int 0), (0, .ref (h 0)), (1, .int x1)]) hx hb dX3_broken_1 rfl hl (by decide) rfl (fun ls hl => ?_)
  refine lv_iconst (v := 4) hx hb dX3_broken_2 (by decide) ?_
  refine lv_iload_n hx hb dX3_broken_3 rfl (lv_at hl 2 rfl) ?_
  refine lv_imul hx hb dX3_broken_4 ?_
  refine lv_istore_n (lv' := [(3, .int (4 * x1)), (2, .int 0), (0, .ref (h 0)), (1, .int x1)]) hx hb dX3_broken_5 rfl hl (by decide) rfl (fun ls hl => ?_)
  exact L6 gs_fu x1 0 (4 * x1) σ _ _ _ hf hP hD hS (lv_sub hl [2, 3, 1, 0] rfl)
set_option maxHeartbeats 4000000 in
set_option maxRecDepth 100000 in
theorem ct_X3_mend (l : Launch) (dC : Nat → ClassId) (dI : Nat → Nat → Nat) (h : Nat → Nat) (k : Nat → ClassId) (T : Nat) (σ : gS) (sz : Nat) (x1 : Int32) (y : Int32 × gS) (hf : fn_X3_mend T x1 σ = some y) : Met l yX3_mend wsX3_mend ({ frames := 2, cells := 0, slots := 0, locals := 44 }) (va_Pc [.ref (h 0), .int x1] (uPre (dC, dI) vwCl (tB k) (wB h k T) zB σ sz)) (va_Qi (fun r u => (r, u) = y) (uAt (dC, dI) vwCl (tB k) (wB h k T) (va_A (wB h k T σ) sz)) (va_A (wB h k T σ) sz)) 0 0 (va_A (wB h k T σ) sz) := by
  refine Met.ofW (cc := cX3_mend) (maxL := 4) (ret := (some .int)) (by decide) rfl ?_
  intro p e s m args below meth c s₁ B hml hv
  obtain ⟨rfl, hsz, hP, hK, hD0, hZ⟩ := hv
  have hx := B.exec
  have hb := B.bytes
  have hr := B.returns
  have hts : ∀ w ∈ gG, w.before _ s = true := fun w h => atoms_spec (ws := wsX3_mend) B.pre w (List.mem_cons_of_mem _ h)
  have hown : s.vm.findClass RX3 = some m.cls := findClass_of_methodNamed B.named
  have hlocks := B.notSynchronized
  subst hsz
  have hD := hD0.self (sz := s.heap.size)
  generalize hAe : va_A (wB h k T σ) s.heap.size = A at hD hZ ⊢
  have hA : ∀ q : Nat, s.heap.size ≤ q → A q := fun q h => by rw [← hAe]; exact Or.inr h
  have hS : va_S A s.heap s.heap [] := va_S.rf
  have L16 : ∀ (n : Nat), ∀ (z1 : Int32) (z2 : Int32) (z3 : Int32) (σ : gS) (H : Heap) (locs : List Loc) (ls : Array Slot), fn_X3_mend_L16 T n z1 z2 z3 σ = some y → va_P (dC, dI) vwCl (wB h k T σ) H → va_D A (wB h k T σ) → va_S A s.heap H locs → lv_has ls 4 [(0, .ref (h 0)), (1, .int z1), (2, .int z2), (3, .int z3)] → W p l e ({ frames := 2, cells := 0, slots := 0, locals := 44 }) s m ([.ref (h 0), .int x1] : List Value).toArray below meth c H locs 0 0 (MQ below (va_Qi (fun r u => (r, u) = y) (uAt (dC, dI) vwCl (tB k) (wB h k T) A) A) ([.ref (h 0), .int x1] : List Value).toArray s 0 0 A) (F0 m 16 ls []) := by
    intro n
    induction n with
    | zero => intro z1 z2 z3 σ H locs ls hf; exact absurd hf (by rw [fn_X3_mend_L16]; exact nofun)
    | succ n ih =>
      intro z1 z2 z3 σ H locs ls hf hP hD hS hl
      rw [fn_X3_mend_L16] at hf
      refine lv_iload_n hx hb dX3_mend_16 rfl (lv_at hl 3 rfl) ?_
      refine lv_iconst (v := 4) hx hb dX3_mend_17 (by decide) ?_
      refine lv_iload_n hx hb dX3_mend_18 rfl (lv_at hl 1 rfl) ?_
      refine lv_imul hx hb dX3_mend_19 ?_
      refine lv_iconst (v := 4) hx hb dX3_mend_20 (by decide) ?_
      refine lv_iadd hx hb dX3_mend_21 ?_
      refine lv_icmp_ge (tgt := 54) hx hb dX3_mend_22 (by decide) (fun hq => ?_) (fun hq => ?_)
      · have hf := gs_t hf hq
        refine lv_iload_n hx hb dX3_mend_54 rfl (lv_at hl 2 rfl) ?_
        exact W.iret (v := z2) hx hb hr (fun t ht hW => u_ri (Option.some.inj hf) ht hW hP hK hD hS) hS.2.2 dX3_mend_55
      · have hf := gs_f hf hq
        refine lv_aload_n hx hb dX3_mend_25 rfl (lv_at hl 0 rfl) ?_
        refine lv_iload_n hx hb dX3_mend_26 rfl (lv_at hl 3 rfl) ?_
        obtain ⟨r3, σ4, hc, hf⟩ := gs_ob_e hf
        have hF := u_free hD hS hA
        refine u_calli (va_runV (As := [.int z3]) (rest := []) ⟨hx, hb, hml, hown, hts⟩ (ct_X3_wrong l dC dI h k T σ H.size z3 _ hc) (cwV 1 hts (gd_V mg_410 mg_411 mg_20 mg_36 mg_412) rfl rfl rfl (by decide +kernel) ⟨Nat.le_of_ble_eq_true rfl, Nat.le_of_ble_eq_true rfl⟩) (u_preV zB_g hK hP hD hS hF hZ (va_recv hK hP (ci := 3) (q0 := 0) rfl rfl)) rfl rfl hl.1 rfl (lv_room (Nat.le_of_ble_eq_true rfl)) dX3_mend_27 ⟨Nat.le_refl _, Nat.le_refl _⟩) hS hF (fun H locs hP hD hS => ?_)
        refine lv_if_eq (tgt := 48) hx hb dX3_mend_30 (by decide) (fun hq => ?_) (fun hq => ?_)
        · have hf := gs_t hf hq
          refine lv_iinc (v := z3 + 1) (lv' := [(3, .int (z3 + 1)), (0, .ref (h 0)), (1, .int z1), (2, .int z2)]) hx hb dX3_mend_48 hl (k := 3) rfl rfl (by decide) rfl (fun ls hl => ?_)
          refine lv_goto (tgt := 16) hx hb dX3_mend_51 (by decide) ?_
          exact ih z1 z2 (z3 + 1) σ4 _ _ _ hf hP hD hS (lv_sub hl [1, 2, 3, 0] rfl)
        · have hf := gs_f hf hq
          refine lv_aload_n hx hb dX3_mend_33 rfl (lv_at hl 0 rfl) ?_
          refine va_get (D := (dC, dI)) (ci := 3) (v := .ref (h 2)) (C := RX3) (T := TX3) (N := 11) hx hb hts inG_X3 hown hK hP 0 rfl rfl 2 (by decide) (hts _ mg_367) (fun _ h9 => h9) rfl dX3_mend_34 ?_
          refine lv_iload_n hx hb dX3_mend_37 rfl (lv_at hl 3 rfl) ?_
          refine lv_aload_n hx hb dX3_mend_38 rfl (lv_at hl 0 rfl) ?_
          refine va_get (D := (dC, dI)) (ci := 3) (v := .ref (h 1)) (C := RX3) (T := TX3) (N := 11) hx hb hts inG_X3 hown hK hP 0 rfl rfl 1 (by decide) (hts _ mg_366) (fun _ h9 => h9) rfl dX3_mend_39 ?_
          refine lv_iload_n hx hb dX3_mend_42 rfl (lv_at hl 3 rfl) ?_
          obtain ⟨hin, hf⟩ := gs_gd_e hf
          refine va_iald hx hb hK hP 1 0 rfl rfl hin dX3_mend_43 ?_
          obtain ⟨hin, hf⟩ := gs_gd_e hf
          refine va_iast hx hb hK hP hD hS 2 1 rfl rfl hin dX3_mend_44 (fun H locs hP hD hS => ?_)
          obtain ⟨σ5, es, hf⟩ := gs_lt_e hf
          have hP : va_P (dC, dI) vwCl (wB h k T σ5) H := by rw [es]; exact hP
          have hD : va_D A (wB h k T σ5) := by rw [es]; exact hD
          clear es
          refine lv_iinc (v := z2 + 1) (lv' := [(2, .int (z2 + 1)), (0, .ref (h 0)), (1, .int z1), (3, .int z3)]) hx hb dX3_mend_45 hl (k := 2) rfl rfl (by decide) rfl (fun ls hl => ?_)
          refine lv_iinc (v := z3 + 1) (lv' := [(3, .int (z3 + 1)), (2, .int (z2 + 1)), (0, .ref (h 0)), (1, .int z1)]) hx hb dX3_mend_48 hl (k := 3) rfl rfl (by decide) rfl (fun ls hl => ?_)
          refine lv_goto (tgt := 16) hx hb dX3_mend_51 (by decide) ?_
          exact ih z1 (z2 + 1) (z3 + 1) σ5 _ _ _ hf hP hD hS (lv_sub hl [2, 3, 1, 0] rfl)
  have hl := lv_entry ([.ref (h 0), .int x1]) (n := 4) (Nat.le_of_ble_eq_true rfl)
  rw [lg_entry_eq]
  generalize (lg_sl ([.ref (h 0), .int x1]) ++ List.replicate (4 - (lg_sl ([.ref (h 0), .int x1])).length) Slot.unset).toArray = ls at hl ⊢
  have hl : lv_has ls 4 [(0, .ref (h 0)), (1, .int x1)] := hl
  rw [fn_X3_mend] at hf
  refine lv_aload_n hx hb dX3_mend_0 rfl (lv_at hl 0 rfl) ?_
  refine lv_iload_n hx hb dX3_mend_1 rfl (lv_at hl 1 rfl) ?_
  obtain ⟨r1, σ2, hc, hf⟩ := gs_ob_e hf
  have hF := u_free hD hS hA
  refine u_calli (va_runV (As := [.int x1]) (rest := []) ⟨hx, hb, hml, hown, hts⟩ (ct_X3_broken l dC dI h k T σ s.heap.size x1 _ hc) (cwV 1 hts (gd_V mg_407 mg_408 mg_19 mg_36 mg_409) rfl rfl rfl (by decide +kernel) ⟨Nat.le_of_ble_eq_true rfl, Nat.le_of_ble_eq_true rfl⟩) (u_preV zB_g hK hP hD hS hF hZ (va_recv hK hP (ci := 3) (q0 := 0) rfl rfl)) rfl rfl hl.1 rfl (lv_room (Nat.le_of_ble_eq_true rfl)) dX3_mend_2 ⟨Nat.le_refl _, Nat.le_refl _⟩) hS hF (fun H locs hP hD hS => ?_)
  refine lv_if_eq (tgt := 10) hx hb dX3_mend_5 (by decide) (fun hq => ?_) (fun hq => ?_)
  · have hf := gs_t hf hq
    refine lv_iconst (v := 0) hx hb dX3_mend_10 (by decide) ?_
    refine lv_istore_n (lv' := [(2, .int 0), (0, .ref (h 0)), (1, .int x1)]) hx hb dX3_mend_11 rfl hl (by decide) rfl (fun ls hl => ?_)
    refine lv_iconst (v := 4) hx hb dX3_mend_12 (by decide) ?_
    refine lv_iload_n hx hb dX3_mend_13 rfl (lv_at hl 2 rfl) ?_
    refine lv_imul hx hb dX3_mend_14 ?_
    refine lv_istore_n (lv' := [(3, .int (4 * x1)), (2, .int 0), (0, .ref (h 0)), (1, .int x1)]) hx hb dX3_mend_15 rfl hl (by decide) rfl (fun ls hl => ?_)
    exact L16 gs_fu x1 0 (4 * x1) σ2 _ _ _ hf hP hD hS (lv_sub hl [2, 3, 1, 0] rfl)
  · have hf := gs_f hf hq
    refine lv_iconst (v := 0) hx hb dX3_mend_8 (by decide) ?_
    exact W.iret (v := 0) hx hb hr (fun t ht hW => u_ri (Option.some.inj hf) ht hW hP hK hD hS) hS.2.2 dX3_mend_9
set_option maxHeartbeats 4000000 in
set_option maxRecDepth 100000 in
theorem ct_X3_put (l : Launch) (dC : Nat → ClassId) (dI : Nat → Nat → Nat) (h : Nat → Nat) (k : Nat → ClassId) (T : Nat) (σ : gS) (sz : Nat) (x1 : Int32) (x2 : Int32) (y : Int32 × gS) (hf : fn_X3_put T x1 x2 σ = some y) : Met l yX3_put wsX3_put ({ frames := 0, cells := 0, slots := 0, locals := 0 }) (va_Pc [.ref (h 0), .int x1, .int x2] (uPre (dC, dI) vwCl (tB k) (wB h k T) zB σ sz)) (va_Qv (fun u => u = y.2) (uAt (dC, dI) vwCl (tB k) (wB h k T) (va_A (wB h k T σ) sz)) (va_A (wB h k T σ) sz)) 0 0 (va_A (wB h k T σ) sz) := by
  refine Met.ofW (cc := cX3_put) (maxL := 3) (ret := none) (by decide) rfl ?_
  intro p e s m args below meth c s₁ B hml hv
  obtain ⟨rfl, hsz, hP, hK, hD0, hZ⟩ := hv
  have hx := B.exec
  have hb := B.bytes
  have hr := B.returns
  have hts : ∀ w ∈ gG, w.before _ s = true := fun w h => atoms_spec (ws := wsX3_put) B.pre w (List.mem_cons_of_mem _ h)
  have hown : s.vm.findClass RX3 = some m.cls := findClass_of_methodNamed B.named
  have hlocks := B.notSynchronized
  subst hsz
  have hD := hD0.self (sz := s.heap.size)
  generalize hAe : va_A (wB h k T σ) s.heap.size = A at hD hZ ⊢
  have hA : ∀ q : Nat, s.heap.size ≤ q → A q := fun q h => by rw [← hAe]; exact Or.inr h
  have hS : va_S A s.heap s.heap [] := va_S.rf
  have hl := lv_entry ([.ref (h 0), .int x1, .int x2]) (n := 3) (Nat.le_of_ble_eq_true rfl)
  rw [lg_entry_eq]
  generalize (lg_sl ([.ref (h 0), .int x1, .int x2]) ++ List.replicate (3 - (lg_sl ([.ref (h 0), .int x1, .int x2])).length) Slot.unset).toArray = ls at hl ⊢
  have hl : lv_has ls 3 [(0, .ref (h 0)), (1, .int x1), (2, .int x2)] := hl
  rw [fn_X3_put] at hf
  refine lv_aload_n hx hb dX3_put_0 rfl (lv_at hl 0 rfl) ?_
  refine va_get (D := (dC, dI)) (ci := 3) (v := .ref (h 1)) (C := RX3) (T := TX3) (N := 11) hx hb hts inG_X3 hown hK hP 0 rfl rfl 1 (by decide) (hts _ mg_366) (fun _ h9 => h9) rfl dX3_put_1 ?_
  refine lv_iload_n hx hb dX3_put_4 rfl (lv_at hl 1 rfl) ?_
  refine lv_iload_n hx hb dX3_put_5 rfl (lv_at hl 2 rfl) ?_
  obtain ⟨hin, hf⟩ := gs_gd_e hf
  refine va_iast hx hb hK hP hD hS 1 0 rfl rfl hin dX3_put_6 (fun H locs hP hD hS => ?_)
  obtain ⟨σ1, es, hf⟩ := gs_lt_e hf
  have hP : va_P (dC, dI) vwCl (wB h k T σ1) H := by rw [es]; exact hP
  have hD : va_D A (wB h k T σ1) := by rw [es]; exact hD
  clear es
  refine lv_aload_n hx hb dX3_put_7 rfl (lv_at hl 0 rfl) ?_
  refine va_get (D := (dC, dI)) (ci := 3) (v := .ref (h 3)) (C := RX3) (T := TX3) (N := 11) hx hb hts inG_X3 hown hK hP 0 rfl rfl 3 (by decide) (hts _ mg_368) (fun _ h9 => h9) rfl dX3_put_8 ?_
  refine lv_iload_n hx hb dX3_put_11 rfl (lv_at hl 1 rfl) ?_
  obtain ⟨hin, hf⟩ := gs_gd_e hf
  refine va_zald hx hb hK hP 3 2 rfl rfl hin dX3_put_12 ?_
  refine lv_if_ne (tgt := 23) hx hb dX3_put_13 (by decide) (fun hq => ?_) (fun hq => ?_)
  · have hf := gs_f hf hq
    exact W.vret hx hb hr (fun t ht hW => u_rv (Option.some.inj hf) ht hW hP hK hD hS) hS.2.2 dX3_put_23
  · have hf := gs_t hf hq
    refine lv_aload_n hx hb dX3_put_16 rfl (lv_at hl 0 rfl) ?_
    refine va_get (D := (dC, dI)) (ci := 3) (v := .ref (h 2)) (C := RX3) (T := TX3) (N := 11) hx hb hts inG_X3 hown hK hP 0 rfl rfl 2 (by decide) (hts _ mg_367) (fun _ h9 => h9) rfl dX3_put_17 ?_
    refine lv_iload_n hx hb dX3_put_20 rfl (lv_at hl 1 rfl) ?_
    refine lv_iload_n hx hb dX3_put_21 rfl (lv_at hl 2 rfl) ?_
    obtain ⟨hin, hf⟩ := gs_gd_e hf
    refine va_iast hx hb hK hP hD hS 2 1 rfl rfl hin dX3_put_22 (fun H locs hP hD hS => ?_)
    obtain ⟨σ2, es, hf⟩ := gs_lt_e hf
    have hP : va_P (dC, dI) vwCl (wB h k T σ2) H := by rw [es]; exact hP
    have hD : va_D A (wB h k T σ2) := by rw [es]; exact hD
    clear es
    exact W.vret hx hb hr (fun t ht hW => u_rv (Option.some.inj hf) ht hW hP hK hD hS) hS.2.2 dX3_put_23
set_option maxHeartbeats 4000000 in
set_option maxRecDepth 100000 in
theorem ct_X3_write (l : Launch) (dC : Nat → ClassId) (dI : Nat → Nat → Nat) (h : Nat → Nat) (k : Nat → ClassId) (T : Nat) (σ : gS) (sz : Nat) (x1 : Int32) (x2 : Int32) (x3 : Int32) (x4 : Int32) (y : Int32 × gS) (hf : fn_X3_write T x1 x2 x3 x4 σ = some y) : Met l yX3_write wsX3_write ({ frames := 3, cells := 0, slots := 0, locals := 67 }) (va_Pc [.ref (h 0), .int x1, .int x2, .int x3, .int x4] (uPre (dC, dI) vwCl (tB k) (wB h k T) zB σ sz)) (va_Qi (fun r u => (r, u) = y) (uAt (dC, dI) vwCl (tB k) (wB h k T) (va_A (wB h k T σ) sz)) (va_A (wB h k T σ) sz)) 0 0 (va_A (wB h k T σ) sz) := by
  refine Met.ofW (cc := cX3_write) (maxL := 10) (ret := (some .int)) (by decide) rfl ?_
  intro p e s m args below meth c s₁ B hml hv
  obtain ⟨rfl, hsz, hP, hK, hD0, hZ⟩ := hv
  have hx := B.exec
  have hb := B.bytes
  have hr := B.returns
  have hts : ∀ w ∈ gG, w.before _ s = true := fun w h => atoms_spec (ws := wsX3_write) B.pre w (List.mem_cons_of_mem _ h)
  have hown : s.vm.findClass RX3 = some m.cls := findClass_of_methodNamed B.named
  have hlocks := B.notSynchronized
  subst hsz
  have hD := hD0.self (sz := s.heap.size)
  generalize hAe : va_A (wB h k T σ) s.heap.size = A at hD hZ ⊢
  have hA : ∀ q : Nat, s.heap.size ≤ q → A q := fun q h => by rw [← hAe]; exact Or.inr h
  have hS : va_S A s.heap s.heap [] := va_S.rf
  have hl := lv_entry ([.ref (h 0), .int x1, .int x2, .int x3, .int x4]) (n := 10) (Nat.le_of_ble_eq_true rfl)
  rw [lg_entry_eq]
  generalize (lg_sl ([.ref (h 0), .int x1, .int x2, .int x3, .int x4]) ++ List.replicate (10 - (lg_sl ([.ref (h 0), .int x1, .int x2, .int x3, .int x4])).length) Slot.unset).toArray = ls at hl ⊢
  have hl : lv_has ls 10 [(0, .ref (h 0)), (1, .int x1), (2, .int x2), (3, .int x3), (4, .int x4)] := hl
  rw [fn_X3_write] at hf
  refine lv_aload_n hx hb dX3_write_0 rfl (lv_at hl 0 rfl) ?_
  refine lv_iload_n hx hb dX3_write_1 rfl (lv_at hl 1 rfl) ?_
  refine lv_iload_n hx hb dX3_write_2 rfl (lv_at hl 2 rfl) ?_
  obtain ⟨r1, σ2, hc, hf⟩ := gs_ob_e hf
  have hF := u_free hD hS hA
  refine u_calli (va_runV (As := [.int x1, .int x2]) (rest := []) ⟨hx, hb, hml, hown, hts⟩ (ct_X3_block l dC dI h k T σ s.heap.size x1 x2 _ hc) (cwV 2 hts (gd_V mg_404 mg_405 mg_18 mg_36 mg_406) rfl rfl rfl (by decide +kernel) ⟨Nat.le_of_ble_eq_true rfl, Nat.le_of_ble_eq_true rfl⟩) (u_preV zB_g hK hP hD hS hF hZ (va_recv hK hP (ci := 3) (q0 := 0) rfl rfl)) rfl rfl hl.1 rfl (lv_room (Nat.le_of_ble_eq_true rfl)) dX3_write_3 ⟨Nat.le_refl _, Nat.le_refl _⟩) hS hF (fun H locs hP hD hS => ?_)
  refine lv_istore (lv' := [(5, .int r1), (0, .ref (h 0)), (1, .int x1), (2, .int x2), (3, .int x3), (4, .int x4)]) hx hb dX3_write_6 hl (by decide) rfl (fun ls hl => ?_)
  refine lv_iload hx hb dX3_write_8 (lv_at hl 0 rfl) ?_
  refine lv_if_ge (tgt := 15) hx hb dX3_write_10 (by decide) (fun hq => ?_) (fun hq => ?_)
  · have hf := gs_t hf hq
    refine lv_iload hx hb dX3_write_15 (lv_at hl 0 rfl) ?_
    refine lv_iconst (v := 3) hx hb dX3_write_17 (by decide) ?_
    refine lv_idiv hx hb dX3_write_18 (by decide) ?_
    refine lv_istore (lv' := [(6, .int (r1 / 3)), (5, .int r1), (0, .ref (h 0)), (1, .int x1), (2, .int x2), (3, .int x3), (4, .int x4)]) hx hb dX3_write_19 hl (by decide) rfl (fun ls hl => ?_)
    refine lv_aload_n hx hb dX3_write_21 rfl (lv_at hl 2 rfl) ?_
    refine lv_iload hx hb dX3_write_22 (lv_at hl 0 rfl) ?_
    obtain ⟨r3, σ4, hc, hf⟩ := gs_ob_e hf
    have hF := u_free hD hS hA
    refine u_calli (va_runV (As := [.int (r1 / 3)]) (rest := []) ⟨hx, hb, hml, hown, hts⟩ (ct_X3_broken l dC dI h k T σ2 H.size (r1 / 3) _ hc) (cwV 1 hts (gd_V mg_407 mg_408 mg_19 mg_36 mg_409) rfl rfl rfl (by decide +kernel) ⟨Nat.le_of_ble_eq_true rfl, Nat.le_of_ble_eq_true rfl⟩) (u_preV zB_g hK hP hD hS hF hZ (va_recv hK hP (ci := 3) (q0 := 0) rfl rfl)) rfl rfl hl.1 rfl (lv_room (Nat.le_of_ble_eq_true rfl)) dX3_write_24 ⟨Nat.le_refl _, Nat.le_refl _⟩) hS hF (fun H locs hP hD hS => ?_)
    refine lv_if_eq (tgt := 33) hx hb dX3_write_27 (by decide) (fun hq => ?_) (fun hq => ?_)
    · have hf := gs_t hf hq
      refine lv_aload_n hx hb dX3_write_33 rfl (lv_at hl 2 rfl) ?_
      refine lv_iload hx hb dX3_write_34 (lv_at hl 0 rfl) ?_
      obtain ⟨r5, σ6, hc, hf⟩ := gs_ob_e hf
      have hF := u_free hD hS hA
      refine u_calli (va_runV (As := [.int (r1 / 3)]) (rest := []) ⟨hx, hb, hml, hown, hts⟩ (ct_X3_mend l dC dI h k T σ4 H.size (r1 / 3) _ hc) (cwV 1 hts (gd_V mg_413 mg_414 mg_21 mg_36 mg_415) rfl rfl rfl (by decide +kernel) ⟨Nat.le_of_ble_eq_true rfl, Nat.le_of_ble_eq_true rfl⟩) (u_preV zB_g hK hP hD hS hF hZ (va_recv hK hP (ci := 3) (q0 := 0) rfl rfl)) rfl rfl hl.1 rfl (lv_room (Nat.le_of_ble_eq_true rfl)) dX3_write_36 ⟨Nat.le_refl _, Nat.le_refl _⟩) hS hF (fun H locs hP hD hS => ?_)
      refine lv_istore (lv' := [(7, .int r5), (6, .int (r1 / 3)), (5, .int r1), (0, .ref (h 0)), (1, .int x1), (2, .int x2), (3, .int x3), (4, .int x4)]) hx hb dX3_write_39 hl (by decide) rfl (fun ls hl => ?_)
      refine lv_iconst (v := 4) hx hb dX3_write_41 (by decide) ?_
      refine lv_iload hx hb dX3_write_42 (lv_at hl 1 rfl) ?_
      refine lv_imul hx hb dX3_write_44 ?_
      refine lv_iload hx hb dX3_write_45 (lv_at hl 2 rfl) ?_
      refine lv_iconst (v := 3) hx hb dX3_write_47 (by decide) ?_
      refine lv_irem hx hb dX3_write_48 (by decide) ?_
      refine lv_iadd hx hb dX3_write_49 ?_
      refine lv_istore (lv' := [(8, .int ((4 * (r1 / 3)) + (r1 - r1 / 3 * 3))), (7, .int r5), (6, .int (r1 / 3)), (5, .int r1), (0, .ref (h 0)), (1, .int x1), (2, .int x2), (3, .int x3), (4, .int x4)]) hx hb dX3_write_50 hl (by decide) rfl (fun ls hl => ?_)
      refine lv_iload hx hb dX3_write_52 (lv_at hl 8 rfl) ?_
      refine lv_if_eq (tgt := 79) hx hb dX3_write_54 (by decide) (fun hq => ?_) (fun hq => ?_)
      · have hf := gs_t hf hq
        refine lv_iconst (v := 1) hx hb dX3_write_79 (by decide) ?_
        refine lv_goto (tgt := 84) hx hb dX3_write_80 (by decide) ?_
        refine lv_istore (lv' := [(9, .int 1), (8, .int ((4 * (r1 / 3)) + (r1 - r1 / 3 * 3))), (7, .int r5), (6, .int (r1 / 3)), (5, .int r1), (0, .ref (h 0)), (1, .int x1), (2, .int x2), (3, .int x3), (4, .int x4)]) hx hb dX3_write_84 hl (by decide) rfl (fun ls hl => ?_)
        refine lv_iload hx hb dX3_write_86 (lv_at hl 0 rfl) ?_
        refine lv_if_ne (tgt := 141) hx hb dX3_write_88 (by decide) (fun hq => ?_) (fun hq => absurd hq (by decide))
        refine lv_iload hx hb dX3_write_141 (lv_at hl 9 rfl) ?_
        refine lv_iconst (v := 4) hx hb dX3_write_143 (by decide) ?_
        obtain ⟨r7, σ8, hc, hf⟩ := gs_ob_e hf
        have hF := u_free hD hS hA
        refine u_calli (va_runS (As := [.int x4, .int 4]) (rest := []) ⟨hx, hb, hml, hown, hts⟩ (ct_X3_in l dC dI h k T σ6 H.size x4 4 _ hc) (va_cwS 2 hts (gd_S mg_380 mg_381 mg_36 mg_382) rfl rfl rfl (by decide +kernel) ⟨Nat.le_of_ble_eq_true rfl, Nat.le_of_ble_eq_true rfl⟩) (u_preS zB_g hK hP hD hS hF hZ) rfl rfl hl.1 rfl (lv_room (Nat.le_of_ble_eq_true rfl)) dX3_write_144 ⟨Nat.le_refl _, Nat.le_refl _⟩) hS hF (fun H locs hP hD hS => ?_)
        refine lv_if_eq (tgt := 155) hx hb dX3_write_147 (by decide) (fun hq => ?_) (fun hq => ?_)
        · have hf := gs_t hf hq
          refine lv_iconst (v := 0) hx hb dX3_write_155 (by decide) ?_
          exact W.iret (v := 0) hx hb hr (fun t ht hW => u_ri (Option.some.inj hf) ht hW hP hK hD hS) hS.2.2 dX3_write_156
        · have hf := gs_f hf hq
          refine lv_bipush (v := (-4)) hx hb dX3_write_150 (by decide) ?_
          refine lv_goto (tgt := 156) hx hb dX3_write_152 (by decide) ?_
          exact W.iret (v := (-4)) hx hb hr (fun t ht hW => u_ri (Option.some.inj hf) ht hW hP hK hD hS) hS.2.2 dX3_write_156
      · have hf := gs_f hf hq
        refine lv_iload hx hb dX3_write_57 (lv_at hl 8 rfl) ?_
        refine lv_iconst (v := 1) hx hb dX3_write_59 (by decide) ?_
        refine lv_icmp_eq (tgt := 79) hx hb dX3_write_60 (by decide) (fun hq => ?_) (fun hq => ?_)
        · have hf := gs_t hf hq
          refine lv_iconst (v := 1) hx hb dX3_write_79 (by decide) ?_
          refine lv_goto (tgt := 84) hx hb dX3_write_80 (by decide) ?_
          refine lv_istore (lv' := [(9, .int 1), (8, .int ((4 * (r1 / 3)) + (r1 - r1 / 3 * 3))), (7, .int r5), (6, .int (r1 / 3)), (5, .int r1), (0, .ref (h 0)), (1, .int x1), (2, .int x2), (3, .int x3), (4, .int x4)]) hx hb dX3_write_84 hl (by decide) rfl (fun ls hl => ?_)
          refine lv_iload hx hb dX3_write_86 (lv_at hl 0 rfl) ?_
          refine lv_if_ne (tgt := 141) hx hb dX3_write_88 (by decide) (fun hq => ?_) (fun hq => absurd hq (by decide))
          refine lv_iload hx hb dX3_write_141 (lv_at hl 9 rfl) ?_
          refine lv_iconst (v := 4) hx hb dX3_write_143 (by decide) ?_
          obtain ⟨r9, σ10, hc, hf⟩ := gs_ob_e hf
          have hF := u_free hD hS hA
          refine u_calli (va_runS (As := [.int x4, .int 4]) (rest := []) ⟨hx, hb, hml, hown, hts⟩ (ct_X3_in l dC dI h k T σ6 H.size x4 4 _ hc) (va_cwS 2 hts (gd_S mg_380 mg_381 mg_36 mg_382) rfl rfl rfl (by decide +kernel) ⟨Nat.le_of_ble_eq_true rfl, Nat.le_of_ble_eq_true rfl⟩) (u_preS zB_g hK hP hD hS hF hZ) rfl rfl hl.1 rfl (lv_room (Nat.le_of_ble_eq_true rfl)) dX3_write_144 ⟨Nat.le_refl _, Nat.le_refl _⟩) hS hF (fun H locs hP hD hS => ?_)
          refine lv_if_eq (tgt := 155) hx hb dX3_write_147 (by decide) (fun hq => ?_) (fun hq => ?_)
          · have hf := gs_t hf hq
            refine lv_iconst (v := 0) hx hb dX3_write_155 (by decide) ?_
            exact W.iret (v := 0) hx hb hr (fun t ht hW => u_ri (Option.some.inj hf) ht hW hP hK hD hS) hS.2.2 dX3_write_156
          · have hf := gs_f hf hq
            refine lv_bipush (v := (-4)) hx hb dX3_write_150 (by decide) ?_
            refine lv_goto (tgt := 156) hx hb dX3_write_152 (by decide) ?_
            exact W.iret (v := (-4)) hx hb hr (fun t ht hW => u_ri (Option.some.inj hf) ht hW hP hK hD hS) hS.2.2 dX3_write_156
        · have hf := gs_f hf hq
          refine lv_iload hx hb dX3_write_63 (lv_at hl 8 rfl) ?_
          refine lv_iconst (v := 2) hx hb dX3_write_65 (by decide) ?_
          refine lv_icmp_ne (tgt := 83) hx hb dX3_write_66 (by decide) (fun hq => ?_) (fun hq => ?_)
          · have hf := gs_f hf hq
            refine lv_iconst (v := 0) hx hb dX3_write_83 (by decide) ?_
            refine lv_istore (lv' := [(9, .int 0), (8, .int ((4 * (r1 / 3)) + (r1 - r1 / 3 * 3))), (7, .int r5), (6, .int (r1 / 3)), (5, .int r1), (0, .ref (h 0)), (1, .int x1), (2, .int x2), (3, .int x3), (4, .int x4)]) hx hb dX3_write_84 hl (by decide) rfl (fun ls hl => ?_)
            refine lv_iload hx hb dX3_write_86 (lv_at hl 0 rfl) ?_
            refine lv_if_ne (tgt := 141) hx hb dX3_write_88 (by decide) (fun hq => absurd hq (by decide)) (fun hq => ?_)
            refine lv_aload_n hx hb dX3_write_91 rfl (lv_at hl 5 rfl) ?_
            refine lv_iload hx hb dX3_write_92 (lv_at hl 1 rfl) ?_
            refine lv_iload_n hx hb dX3_write_94 rfl (lv_at hl 8 rfl) ?_
            obtain ⟨r11, σ12, hc, hf⟩ := gs_ob_e hf
            have hF := u_free hD hS hA
            refine u_callv (va_runV (As := [.int ((4 * (r1 / 3)) + (r1 - r1 / 3 * 3)), .int x3]) (rest := []) ⟨hx, hb, hml, hown, hts⟩ (ct_X3_put l dC dI h k T σ6 H.size ((4 * (r1 / 3)) + (r1 - r1 / 3 * 3)) x3 _ hc) (cwV 2 hts (gd_V mg_416 mg_417 mg_22 mg_36 mg_418) rfl rfl rfl (by decide +kernel) ⟨Nat.le_of_ble_eq_true rfl, Nat.le_of_ble_eq_true rfl⟩) (u_preV zB_g hK hP hD hS hF hZ (va_recv hK hP (ci := 3) (q0 := 0) rfl rfl)) rfl rfl hl.1 rfl (lv_room (Nat.le_of_ble_eq_true rfl)) dX3_write_95 ⟨Nat.le_refl _, Nat.le_refl _⟩) hS hF (fun H locs hP hD hS => ?_)
            refine lv_aload_n hx hb dX3_write_98 rfl (lv_at hl 5 rfl) ?_
            refine lv_iconst (v := 4) hx hb dX3_write_99 (by decide) ?_
            refine lv_iload hx hb dX3_write_100 (lv_at hl 3 rfl) ?_
            refine lv_imul hx hb dX3_write_102 ?_
            refine lv_iconst (v := 3) hx hb dX3_write_103 (by decide) ?_
            refine lv_iadd hx hb dX3_write_104 ?_
            refine lv_aload_n hx hb dX3_write_105 rfl (lv_at hl 5 rfl) ?_
            refine va_get (D := (dC, dI)) (ci := 3) (v := .ref (h 1)) (C := RX3) (T := TX3) (N := 11) hx hb hts inG_X3 hown hK hP 0 rfl rfl 1 (by decide) (hts _ mg_366) (fun _ h9 => h9) rfl dX3_write_106 ?_
            refine lv_iconst (v := 4) hx hb dX3_write_109 (by decide) ?_
            refine lv_iload hx hb dX3_write_110 (lv_at hl 3 rfl) ?_
            refine lv_imul hx hb dX3_write_112 ?_
            obtain ⟨hin, hf⟩ := gs_gd_e hf
            refine va_iald hx hb hK hP 1 0 rfl rfl hin dX3_write_113 ?_
            refine lv_aload_n hx hb dX3_write_114 rfl (lv_at hl 5 rfl) ?_
            refine va_get (D := (dC, dI)) (ci := 3) (v := .ref (h 1)) (C := RX3) (T := TX3) (N := 11) hx hb hts inG_X3 hown hK hP 0 rfl rfl 1 (by decide) (hts _ mg_366) (fun _ h9 => h9) rfl dX3_write_115 ?_
            refine lv_iconst (v := 4) hx hb dX3_write_118 (by decide) ?_
            refine lv_iload hx hb dX3_write_119 (lv_at hl 3 rfl) ?_
            refine lv_imul hx hb dX3_write_121 ?_
            refine lv_iconst (v := 1) hx hb dX3_write_122 (by decide) ?_
            refine lv_iadd hx hb dX3_write_123 ?_
            obtain ⟨hin, hf⟩ := gs_gd_e hf
            refine va_iald hx hb hK hP 1 0 rfl rfl hin dX3_write_124 ?_
            refine lv_ixor hx hb dX3_write_125 ?_
            refine lv_aload_n hx hb dX3_write_126 rfl (lv_at hl 5 rfl) ?_
            refine va_get (D := (dC, dI)) (ci := 3) (v := .ref (h 1)) (C := RX3) (T := TX3) (N := 11) hx hb hts inG_X3 hown hK hP 0 rfl rfl 1 (by decide) (hts _ mg_366) (fun _ h9 => h9) rfl dX3_write_127 ?_
            refine lv_iconst (v := 4) hx hb dX3_write_130 (by decide) ?_
            refine lv_iload hx hb dX3_write_131 (lv_at hl 3 rfl) ?_
            refine lv_imul hx hb dX3_write_133 ?_
            refine lv_iconst (v := 2) hx hb dX3_write_134 (by decide) ?_
            refine lv_iadd hx hb dX3_write_135 ?_
            obtain ⟨hin, hf⟩ := gs_gd_e hf
            refine va_iald hx hb hK hP 1 0 rfl rfl hin dX3_write_136 ?_
            refine lv_ixor hx hb dX3_write_137 ?_
            obtain ⟨r13, σ14, hc, hf⟩ := gs_ob_e hf
            have hF := u_free hD hS hA
            refine u_callv (va_runV (As := [.int ((4 * (r1 / 3)) + 3), .int (((σ12 1 (4 * (r1 / 3)).toNatClampNeg) ^^^ (σ12 1 ((4 * (r1 / 3)) + 1).toNatClampNeg)) ^^^ (σ12 1 ((4 * (r1 / 3)) + 2).toNatClampNeg))]) (rest := []) ⟨hx, hb, hml, hown, hts⟩ (ct_X3_put l dC dI h k T σ12 H.size ((4 * (r1 / 3)) + 3) (((σ12 1 (4 * (r1 / 3)).toNatClampNeg) ^^^ (σ12 1 ((4 * (r1 / 3)) + 1).toNatClampNeg)) ^^^ (σ12 1 ((4 * (r1 / 3)) + 2).toNatClampNeg)) _ hc) (cwV 2 hts (gd_V mg_416 mg_417 mg_22 mg_36 mg_418) rfl rfl rfl (by decide +kernel) ⟨Nat.le_of_ble_eq_true rfl, Nat.le_of_ble_eq_true rfl⟩) (u_preV zB_g hK hP hD hS hF hZ (va_recv hK hP (ci := 3) (q0 := 0) rfl rfl)) rfl rfl hl.1 rfl (lv_room (Nat.le_of_ble_eq_true rfl)) dX3_write_138 ⟨Nat.le_refl _, Nat.le_refl _⟩) hS hF (fun H locs hP hD hS => ?_)
            refine lv_iload hx hb dX3_write_141 (lv_at hl 9 rfl) ?_
            refine lv_iconst (v := 4) hx hb dX3_write_143 (by decide) ?_
            obtain ⟨r15, σ16, hc, hf⟩ := gs_ob_e hf
            have hF := u_free hD hS hA
            refine u_calli (va_runS (As := [.int x4, .int 4]) (rest := []) ⟨hx, hb, hml, hown, hts⟩ (ct_X3_in l dC dI h k T σ14 H.size x4 4 _ hc) (va_cwS 2 hts (gd_S mg_380 mg_381 mg_36 mg_382) rfl rfl rfl (by decide +kernel) ⟨Nat.le_of_ble_eq_true rfl, Nat.le_of_ble_eq_true rfl⟩) (u_preS zB_g hK hP hD hS hF hZ) rfl rfl hl.1 rfl (lv_room (Nat.le_of_ble_eq_true rfl)) dX3_write_144 ⟨Nat.le_refl _, Nat.le_refl _⟩) hS hF (fun H locs hP hD hS => ?_)
            refine lv_if_eq (tgt := 155) hx hb dX3_write_147 (by decide) (fun hq => ?_) (fun hq => ?_)
            · have hf := gs_t hf hq
              refine lv_iconst (v := 0) hx hb dX3_write_155 (by decide) ?_
              exact W.iret (v := 0) hx hb hr (fun t ht hW => u_ri (Option.some.inj hf) ht hW hP hK hD hS) hS.2.2 dX3_write_156
            · have hf := gs_f hf hq
              refine lv_bipush (v := (-4)) hx hb dX3_write_150 (by decide) ?_
              refine lv_goto (tgt := 156) hx hb dX3_write_152 (by decide) ?_
              exact W.iret (v := (-4)) hx hb hr (fun t ht hW => u_ri (Option.some.inj hf) ht hW hP hK hD hS) hS.2.2 dX3_write_156
          · have hf := gs_t hf hq
            refine lv_aload_n hx hb dX3_write_69 rfl (lv_at hl 4 rfl) ?_
            refine va_get (D := (dC, dI)) (ci := 3) (v := .ref (h 3)) (C := RX3) (T := TX3) (N := 11) hx hb hts inG_X3 hown hK hP 0 rfl rfl 3 (by decide) (hts _ mg_368) (fun _ h9 => h9) rfl dX3_write_70 ?_
            refine lv_iload hx hb dX3_write_73 (lv_at hl 0 rfl) ?_
            obtain ⟨hin, hf⟩ := gs_gd_e hf
            refine va_zald hx hb hK hP 3 2 rfl rfl hin dX3_write_75 ?_
            refine lv_if_eq (tgt := 83) hx hb dX3_write_76 (by decide) (fun hq => ?_) (fun hq => ?_)
            · have hf := gs_t hf hq
              refine lv_iconst (v := 0) hx hb dX3_write_83 (by decide) ?_
              refine lv_istore (lv' := [(9, .int 0), (8, .int ((4 * (r1 / 3)) + (r1 - r1 / 3 * 3))), (7, .int r5), (6, .int (r1 / 3)), (5, .int r1), (0, .ref (h 0)), (1, .int x1), (2, .int x2), (3, .int x3), (4, .int x4)]) hx hb dX3_write_84 hl (by decide) rfl (fun ls hl => ?_)
              refine lv_iload hx hb dX3_write_86 (lv_at hl 0 rfl) ?_
              refine lv_if_ne (tgt := 141) hx hb dX3_write_88 (by decide) (fun hq => absurd hq (by decide)) (fun hq => ?_)
              refine lv_aload_n hx hb dX3_write_91 rfl (lv_at hl 5 rfl) ?_
              refine lv_iload hx hb dX3_write_92 (lv_at hl 1 rfl) ?_
              refine lv_iload_n hx hb dX3_write_94 rfl (lv_at hl 8 rfl) ?_
              obtain ⟨r17, σ18, hc, hf⟩ := gs_ob_e hf
              have hF := u_free hD hS hA
              refine u_callv (va_runV (As := [.int ((4 * (r1 / 3)) + (r1 - r1 / 3 * 3)), .int x3]) (rest := []) ⟨hx, hb, hml, hown, hts⟩ (ct_X3_put l dC dI h k T σ6 H.size ((4 * (r1 / 3)) + (r1 - r1 / 3 * 3)) x3 _ hc) (cwV 2 hts (gd_V mg_416 mg_417 mg_22 mg_36 mg_418) rfl rfl rfl (by decide +kernel) ⟨Nat.le_of_ble_eq_true rfl, Nat.le_of_ble_eq_true rfl⟩) (u_preV zB_g hK hP hD hS hF hZ (va_recv hK hP (ci := 3) (q0 := 0) rfl rfl)) rfl rfl hl.1 rfl (lv_room (Nat.le_of_ble_eq_true rfl)) dX3_write_95 ⟨Nat.le_refl _, Nat.le_refl _⟩) hS hF (fun H locs hP hD hS => ?_)
              refine lv_aload_n hx hb dX3_write_98 rfl (lv_at hl 5 rfl) ?_
              refine lv_iconst (v := 4) hx hb dX3_write_99 (by decide) ?_
              refine lv_iload hx hb dX3_write_100 (lv_at hl 3 rfl) ?_
              refine lv_imul hx hb dX3_write_102 ?_
              refine lv_iconst (v := 3) hx hb dX3_write_103 (by decide) ?_
              refine lv_iadd hx hb dX3_write_104 ?_
              refine lv_aload_n hx hb dX3_write_105 rfl (lv_at hl 5 rfl) ?_
              refine va_get (D := (dC, dI)) (ci := 3) (v := .ref (h 1)) (C := RX3) (T := TX3) (N := 11) hx hb hts inG_X3 hown hK hP 0 rfl rfl 1 (by decide) (hts _ mg_366) (fun _ h9 => h9) rfl dX3_write_106 ?_
              refine lv_iconst (v := 4) hx hb dX3_write_109 (by decide) ?_
              refine lv_iload hx hb dX3_write_110 (lv_at hl 3 rfl) ?_
              refine lv_imul hx hb dX3_write_112 ?_
              obtain ⟨hin, hf⟩ := gs_gd_e hf
              refine va_iald hx hb hK hP 1 0 rfl rfl hin dX3_write_113 ?_
              refine lv_aload_n hx hb dX3_write_114 rfl (lv_at hl 5 rfl) ?_
              refine va_get (D := (dC, dI)) (ci := 3) (v := .ref (h 1)) (C := RX3) (T := TX3) (N := 11) hx hb hts inG_X3 hown hK hP 0 rfl rfl 1 (by decide) (hts _ mg_366) (fun _ h9 => h9) rfl dX3_write_115 ?_
              refine lv_iconst (v := 4) hx hb dX3_write_118 (by decide) ?_
              refine lv_iload hx hb dX3_write_119 (lv_at hl 3 rfl) ?_
              refine lv_imul hx hb dX3_write_121 ?_
              refine lv_iconst (v := 1) hx hb dX3_write_122 (by decide) ?_
              refine lv_iadd hx hb dX3_write_123 ?_
              obtain ⟨hin, hf⟩ := gs_gd_e hf
              refine va_iald hx hb hK hP 1 0 rfl rfl hin dX3_write_124 ?_
              refine lv_ixor hx hb dX3_write_125 ?_
              refine lv_aload_n hx hb dX3_write_126 rfl (lv_at hl 5 rfl) ?_
              refine va_get (D := (dC, dI)) (ci := 3) (v := .ref (h 1)) (C := RX3) (T := TX3) (N := 11) hx hb hts inG_X3 hown hK hP 0 rfl rfl 1 (by decide) (hts _ mg_366) (fun _ h9 => h9) rfl dX3_write_127 ?_
              refine lv_iconst (v := 4) hx hb dX3_write_130 (by decide) ?_
              refine lv_iload hx hb dX3_write_131 (lv_at hl 3 rfl) ?_
              refine lv_imul hx hb dX3_write_133 ?_
              refine lv_iconst (v := 2) hx hb dX3_write_134 (by decide) ?_
              refine lv_iadd hx hb dX3_write_135 ?_
              obtain ⟨hin, hf⟩ := gs_gd_e hf
              refine va_iald hx hb hK hP 1 0 rfl rfl hin dX3_write_136 ?_
              refine lv_ixor hx hb dX3_write_137 ?_
              obtain ⟨r19, σ20, hc, hf⟩ := gs_ob_e hf
              have hF := u_free hD hS hA
              refine u_callv (va_runV (As := [.int ((4 * (r1 / 3)) + 3), .int (((σ18 1 (4 * (r1 / 3)).toNatClampNeg) ^^^ (σ18 1 ((4 * (r1 / 3)) + 1).toNatClampNeg)) ^^^ (σ18 1 ((4 * (r1 / 3)) + 2).toNatClampNeg))]) (rest := []) ⟨hx, hb, hml, hown, hts⟩ (ct_X3_put l dC dI h k T σ18 H.size ((4 * (r1 / 3)) + 3) (((σ18 1 (4 * (r1 / 3)).toNatClampNeg) ^^^ (σ18 1 ((4 * (r1 / 3)) + 1).toNatClampNeg)) ^^^ (σ18 1 ((4 * (r1 / 3)) + 2).toNatClampNeg)) _ hc) (cwV 2 hts (gd_V mg_416 mg_417 mg_22 mg_36 mg_418) rfl rfl rfl (by decide +kernel) ⟨Nat.le_of_ble_eq_true rfl, Nat.le_of_ble_eq_true rfl⟩) (u_preV zB_g hK hP hD hS hF hZ (va_recv hK hP (ci := 3) (q0 := 0) rfl rfl)) rfl rfl hl.1 rfl (lv_room (Nat.le_of_ble_eq_true rfl)) dX3_write_138 ⟨Nat.le_refl _, Nat.le_refl _⟩) hS hF (fun H locs hP hD hS => ?_)
              refine lv_iload hx hb dX3_write_141 (lv_at hl 9 rfl) ?_
              refine lv_iconst (v := 4) hx hb dX3_write_143 (by decide) ?_
              obtain ⟨r21, σ22, hc, hf⟩ := gs_ob_e hf
              have hF := u_free hD hS hA
              refine u_calli (va_runS (As := [.int x4, .int 4]) (rest := []) ⟨hx, hb, hml, hown, hts⟩ (ct_X3_in l dC dI h k T σ20 H.size x4 4 _ hc) (va_cwS 2 hts (gd_S mg_380 mg_381 mg_36 mg_382) rfl rfl rfl (by decide +kernel) ⟨Nat.le_of_ble_eq_true rfl, Nat.le_of_ble_eq_true rfl⟩) (u_preS zB_g hK hP hD hS hF hZ) rfl rfl hl.1 rfl (lv_room (Nat.le_of_ble_eq_true rfl)) dX3_write_144 ⟨Nat.le_refl _, Nat.le_refl _⟩) hS hF (fun H locs hP hD hS => ?_)
              refine lv_if_eq (tgt := 155) hx hb dX3_write_147 (by decide) (fun hq => ?_) (fun hq => ?_)
              · have hf := gs_t hf hq
                refine lv_iconst (v := 0) hx hb dX3_write_155 (by decide) ?_
                exact W.iret (v := 0) hx hb hr (fun t ht hW => u_ri (Option.some.inj hf) ht hW hP hK hD hS) hS.2.2 dX3_write_156
              · have hf := gs_f hf hq
                refine lv_bipush (v := (-4)) hx hb dX3_write_150 (by decide) ?_
                refine lv_goto (tgt := 156) hx hb dX3_write_152 (by decide) ?_
                exact W.iret (v := (-4)) hx hb hr (fun t ht hW => u_ri (Option.some.inj hf) ht hW hP hK hD hS) hS.2.2 dX3_write_156
            · have hf := gs_f hf hq
              refine lv_iconst (v := 1) hx hb dX3_write_79 (by decide) ?_
              refine lv_goto (tgt := 84) hx hb dX3_write_80 (by decide) ?_
              refine lv_istore (lv' := [(9, .int 1), (8, .int ((4 * (r1 / 3)) + (r1 - r1 / 3 * 3))), (7, .int r5), (6, .int (r1 / 3)), (5, .int r1), (0, .ref (h 0)), (1, .int x1), (2, .int x2), (3, .int x3), (4, .int x4)]) hx hb dX3_write_84 hl (by decide) rfl (fun ls hl => ?_)
              refine lv_iload hx hb dX3_write_86 (lv_at hl 0 rfl) ?_
              refine lv_if_ne (tgt := 141) hx hb dX3_write_88 (by decide) (fun hq => ?_) (fun hq => absurd hq (by decide))
              refine lv_iload hx hb dX3_write_141 (lv_at hl 9 rfl) ?_
              refine lv_iconst (v := 4) hx hb dX3_write_143 (by decide) ?_
              obtain ⟨r23, σ24, hc, hf⟩ := gs_ob_e hf
              have hF := u_free hD hS hA
              refine u_calli (va_runS (As := [.int x4, .int 4]) (rest := []) ⟨hx, hb, hml, hown, hts⟩ (ct_X3_in l dC dI h k T σ6 H.size x4 4 _ hc) (va_cwS 2 hts (gd_S mg_380 mg_381 mg_36 mg_382) rfl rfl rfl (by decide +kernel) ⟨Nat.le_of_ble_eq_true rfl, Nat.le_of_ble_eq_true rfl⟩) (u_preS zB_g hK hP hD hS hF hZ) rfl rfl hl.1 rfl (lv_room (Nat.le_of_ble_eq_true rfl)) dX3_write_144 ⟨Nat.le_refl _, Nat.le_refl _⟩) hS hF (fun H locs hP hD hS => ?_)
              refine lv_if_eq (tgt := 155) hx hb dX3_write_147 (by decide) (fun hq => ?_) (fun hq => ?_)
              · have hf := gs_t hf hq
                refine lv_iconst (v := 0) hx hb dX3_write_155 (by decide) ?_
                exact W.iret (v := 0) hx hb hr (fun t ht hW => u_ri (Option.some.inj hf) ht hW hP hK hD hS) hS.2.2 dX3_write_156
              · have hf := gs_f hf hq
                refine lv_bipush (v := (-4)) hx hb dX3_write_150 (by decide) ?_
                refine lv_goto (tgt := 156) hx hb dX3_write_152 (by decide) ?_
                exact W.iret (v := (-4)) hx hb hr (fun t ht hW => u_ri (Option.some.inj hf) ht hW hP hK hD hS) hS.2.2 dX3_write_156
    · have hf := gs_f hf hq
      refine lv_bipush (v := (-3)) hx hb dX3_write_30 (by decide) ?_
      exact W.iret (v := (-3)) hx hb hr (fun t ht hW => u_ri (Option.some.inj hf) ht hW hP hK hD hS) hS.2.2 dX3_write_32
  · have hf := gs_f hf hq
    refine lv_iconst (v := (-1)) hx hb dX3_write_13 (by decide) ?_
    exact W.iret (v := (-1)) hx hb hr (fun t ht hW => u_ri (Option.some.inj hf) ht hW hP hK hD hS) hS.2.2 dX3_write_14
set_option maxHeartbeats 4000000 in
set_option maxRecDepth 100000 in
theorem ct_X3_read (l : Launch) (dC : Nat → ClassId) (dI : Nat → Nat → Nat) (h : Nat → Nat) (k : Nat → ClassId) (T : Nat) (σ : gS) (sz : Nat) (x1 : Int32) (x2 : Int32) (y : Int64 × gS) (hf : fn_X3_read T x1 x2 σ = some y) : Met l yX3_read wsX3_read ({ frames := 2, cells := 0, slots := 0, locals := 45 }) (va_Pc [.ref (h 0), .int x1, .int x2] (uPre (dC, dI) vwCl (tB k) (wB h k T) zB σ sz)) (va_Ql (fun r u => (r, u) = y) (uAt (dC, dI) vwCl (tB k) (wB h k T) (va_A (wB h k T σ) sz)) (va_A (wB h k T σ) sz)) 0 0 (va_A (wB h k T σ) sz) := by
  refine Met.ofW (cc := cX3_read) (maxL := 6) (ret := (some .long)) (by decide) rfl ?_
  intro p e s m args below meth c s₁ B hml hv
  obtain ⟨rfl, hsz, hP, hK, hD0, hZ⟩ := hv
  have hx := B.exec
  have hb := B.bytes
  have hr := B.returns
  have hts : ∀ w ∈ gG, w.before _ s = true := fun w h => atoms_spec (ws := wsX3_read) B.pre w (List.mem_cons_of_mem _ h)
  have hown : s.vm.findClass RX3 = some m.cls := findClass_of_methodNamed B.named
  have hlocks := B.notSynchronized
  subst hsz
  have hD := hD0.self (sz := s.heap.size)
  generalize hAe : va_A (wB h k T σ) s.heap.size = A at hD hZ ⊢
  have hA : ∀ q : Nat, s.heap.size ≤ q → A q := fun q h => by rw [← hAe]; exact Or.inr h
  have hS : va_S A s.heap s.heap [] := va_S.rf
  have hl := lv_entry ([.ref (h 0), .int x1, .int x2]) (n := 6) (Nat.le_of_ble_eq_true rfl)
  rw [lg_entry_eq]
  generalize (lg_sl ([.ref (h 0), .int x1, .int x2]) ++ List.replicate (6 - (lg_sl ([.ref (h 0), .int x1, .int x2])).length) Slot.unset).toArray = ls at hl ⊢
  have hl : lv_has ls 6 [(0, .ref (h 0)), (1, .int x1), (2, .int x2)] := hl
  rw [fn_X3_read] at hf
  refine lv_aload_n hx hb dX3_read_0 rfl (lv_at hl 0 rfl) ?_
  refine lv_iload_n hx hb dX3_read_1 rfl (lv_at hl 1 rfl) ?_
  refine lv_iload_n hx hb dX3_read_2 rfl (lv_at hl 2 rfl) ?_
  obtain ⟨r1, σ2, hc, hf⟩ := gs_ob_e hf
  have hF := u_free hD hS hA
  refine u_calli (va_runV (As := [.int x1, .int x2]) (rest := []) ⟨hx, hb, hml, hown, hts⟩ (ct_X3_block l dC dI h k T σ s.heap.size x1 x2 _ hc) (cwV 2 hts (gd_V mg_404 mg_405 mg_18 mg_36 mg_406) rfl rfl rfl (by decide +kernel) ⟨Nat.le_of_ble_eq_true rfl, Nat.le_of_ble_eq_true rfl⟩) (u_preV zB_g hK hP hD hS hF hZ (va_recv hK hP (ci := 3) (q0 := 0) rfl rfl)) rfl rfl hl.1 rfl (lv_room (Nat.le_of_ble_eq_true rfl)) dX3_read_3 ⟨Nat.le_refl _, Nat.le_refl _⟩) hS hF (fun H locs hP hD hS => ?_)
  refine lv_istore_n (lv' := [(3, .int r1), (0, .ref (h 0)), (1, .int x1), (2, .int x2)]) hx hb dX3_read_6 rfl hl (by decide) rfl (fun ls hl => ?_)
  refine lv_iload_n hx hb dX3_read_7 rfl (lv_at hl 0 rfl) ?_
  refine lv_if_ge (tgt := 15) hx hb dX3_read_8 (by decide) (fun hq => ?_) (fun hq => ?_)
  · have hf := gs_t hf hq
    refine lv_iconst (v := 4) hx hb dX3_read_15 (by decide) ?_
    refine lv_iload_n hx hb dX3_read_16 rfl (lv_at hl 0 rfl) ?_
    refine lv_iconst (v := 3) hx hb dX3_read_17 (by decide) ?_
    refine lv_idiv hx hb dX3_read_18 (by decide) ?_
    refine lv_imul hx hb dX3_read_19 ?_
    refine lv_iload_n hx hb dX3_read_20 rfl (lv_at hl 0 rfl) ?_
    refine lv_iconst (v := 3) hx hb dX3_read_21 (by decide) ?_
    refine lv_irem hx hb dX3_read_22 (by decide) ?_
    refine lv_iadd hx hb dX3_read_23 ?_
    refine lv_istore (lv' := [(4, .int ((4 * (r1 / 3)) + (r1 - r1 / 3 * 3))), (3, .int r1), (0, .ref (h 0)), (1, .int x1), (2, .int x2)]) hx hb dX3_read_24 hl (by decide) rfl (fun ls hl => ?_)
    refine lv_aload_n hx hb dX3_read_26 rfl (lv_at hl 2 rfl) ?_
    refine va_get (D := (dC, dI)) (ci := 3) (v := .ref (h 3)) (C := RX3) (T := TX3) (N := 11) hx hb hts inG_X3 hown hK hP 0 rfl rfl 3 (by decide) (hts _ mg_368) (fun _ h9 => h9) rfl dX3_read_27 ?_
    refine lv_iload hx hb dX3_read_30 (lv_at hl 0 rfl) ?_
    obtain ⟨hin, hf⟩ := gs_gd_e hf
    refine va_zald hx hb hK hP 3 2 rfl rfl hin dX3_read_32 ?_
    refine lv_if_ne (tgt := 45) hx hb dX3_read_33 (by decide) (fun hq => ?_) (fun hq => ?_)
    · have hf := gs_f hf hq
      refine lv_iconst (v := 1) hx hb dX3_read_45 (by decide) ?_
      refine lv_goto (tgt := 50) hx hb dX3_read_46 (by decide) ?_
      refine lv_istore (lv' := [(5, .int 1), (4, .int ((4 * (r1 / 3)) + (r1 - r1 / 3 * 3))), (3, .int r1), (0, .ref (h 0)), (1, .int x1), (2, .int x2)]) hx hb dX3_read_50 hl (by decide) rfl (fun ls hl => ?_)
      refine lv_iload hx hb dX3_read_52 (lv_at hl 0 rfl) ?_
      refine lv_if_eq (tgt := 71) hx hb dX3_read_54 (by decide) (fun hq => absurd hq (by decide)) (fun hq => ?_)
      refine lv_aload_n hx hb dX3_read_57 rfl (lv_at hl 3 rfl) ?_
      refine lv_iload_n hx hb dX3_read_58 rfl (lv_at hl 2 rfl) ?_
      refine lv_iconst (v := 3) hx hb dX3_read_59 (by decide) ?_
      refine lv_idiv hx hb dX3_read_60 (by decide) ?_
      obtain ⟨r3, σ4, hc, hf⟩ := gs_ob_e hf
      have hF := u_free hD hS hA
      refine u_calli (va_runV (As := [.int (r1 / 3)]) (rest := []) ⟨hx, hb, hml, hown, hts⟩ (ct_X3_broken l dC dI h k T σ2 H.size (r1 / 3) _ hc) (cwV 1 hts (gd_V mg_407 mg_408 mg_19 mg_36 mg_409) rfl rfl rfl (by decide +kernel) ⟨Nat.le_of_ble_eq_true rfl, Nat.le_of_ble_eq_true rfl⟩) (u_preV zB_g hK hP hD hS hF hZ (va_recv hK hP (ci := 3) (q0 := 0) rfl rfl)) rfl rfl hl.1 rfl (lv_room (Nat.le_of_ble_eq_true rfl)) dX3_read_61 ⟨Nat.le_refl _, Nat.le_refl _⟩) hS hF (fun H locs hP hD hS => ?_)
      refine lv_if_eq (tgt := 71) hx hb dX3_read_64 (by decide) (fun hq => ?_) (fun hq => ?_)
      · have hf := gs_t hf hq
        refine lv_aload_n hx hb dX3_read_71 rfl (lv_at hl 3 rfl) ?_
        refine lv_iload hx hb dX3_read_72 (lv_at hl 1 rfl) ?_
        obtain ⟨r5, σ6, hc, hf⟩ := gs_ob_e hf
        have hF := u_free hD hS hA
        refine u_calli (va_runV (As := [.int ((4 * (r1 / 3)) + (r1 - r1 / 3 * 3))]) (rest := []) ⟨hx, hb, hml, hown, hts⟩ (ct_X3_wrong l dC dI h k T σ4 H.size ((4 * (r1 / 3)) + (r1 - r1 / 3 * 3)) _ hc) (cwV 1 hts (gd_V mg_410 mg_411 mg_20 mg_36 mg_412) rfl rfl rfl (by decide +kernel) ⟨Nat.le_of_ble_eq_true rfl, Nat.le_of_ble_eq_true rfl⟩) (u_preV zB_g hK hP hD hS hF hZ (va_recv hK hP (ci := 3) (q0 := 0) rfl rfl)) rfl rfl hl.1 rfl (lv_room (Nat.le_of_ble_eq_true rfl)) dX3_read_74 ⟨Nat.le_refl _, Nat.le_refl _⟩) hS hF (fun H locs hP hD hS => ?_)
        refine lv_if_eq (tgt := 94) hx hb dX3_read_77 (by decide) (fun hq => ?_) (fun hq => ?_)
        · have hf := gs_t hf hq
          refine lv_aload_n hx hb dX3_read_94 rfl (lv_at hl 3 rfl) ?_
          refine va_get (D := (dC, dI)) (ci := 3) (v := .ref (h 1)) (C := RX3) (T := TX3) (N := 11) hx hb hts inG_X3 hown hK hP 0 rfl rfl 1 (by decide) (hts _ mg_366) (fun _ h9 => h9) rfl dX3_read_95 ?_
          refine lv_iload hx hb dX3_read_98 (lv_at hl 1 rfl) ?_
          obtain ⟨hin, hf⟩ := gs_gd_e hf
          refine va_iald hx hb hK hP 1 0 rfl rfl hin dX3_read_100 ?_
          refine lv_i2l (v := (σ6 1 ((4 * (r1 / 3)) + (r1 - r1 / 3 * 3)).toNatClampNeg).toInt64) hx hb dX3_read_101 rfl ?_
          exact W.lret (v := (σ6 1 ((4 * (r1 / 3)) + (r1 - r1 / 3 * 3)).toNatClampNeg).toInt64) hx hb hr (fun t ht hW => u_rl (Option.some.inj hf) ht hW hP hK hD hS) hS.2.2 dX3_read_102
        · have hf := gs_f hf hq
          refine lv_aload_n hx hb dX3_read_80 rfl (lv_at hl 3 rfl) ?_
          refine va_get (D := (dC, dI)) (ci := 3) (v := .ref (h 2)) (C := RX3) (T := TX3) (N := 11) hx hb hts inG_X3 hown hK hP 0 rfl rfl 2 (by decide) (hts _ mg_367) (fun _ h9 => h9) rfl dX3_read_81 ?_
          refine lv_iload hx hb dX3_read_84 (lv_at hl 1 rfl) ?_
          refine lv_aload_n hx hb dX3_read_86 rfl (lv_at hl 3 rfl) ?_
          refine va_get (D := (dC, dI)) (ci := 3) (v := .ref (h 1)) (C := RX3) (T := TX3) (N := 11) hx hb hts inG_X3 hown hK hP 0 rfl rfl 1 (by decide) (hts _ mg_366) (fun _ h9 => h9) rfl dX3_read_87 ?_
          refine lv_iload hx hb dX3_read_90 (lv_at hl 1 rfl) ?_
          obtain ⟨hin, hf⟩ := gs_gd_e hf
          refine va_iald hx hb hK hP 1 0 rfl rfl hin dX3_read_92 ?_
          obtain ⟨hin, hf⟩ := gs_gd_e hf
          refine va_iast hx hb hK hP hD hS 2 1 rfl rfl hin dX3_read_93 (fun H locs hP hD hS => ?_)
          obtain ⟨σ7, es, hf⟩ := gs_lt_e hf
          have hP : va_P (dC, dI) vwCl (wB h k T σ7) H := by rw [es]; exact hP
          have hD : va_D A (wB h k T σ7) := by rw [es]; exact hD
          clear es
          refine lv_aload_n hx hb dX3_read_94 rfl (lv_at hl 3 rfl) ?_
          refine va_get (D := (dC, dI)) (ci := 3) (v := .ref (h 1)) (C := RX3) (T := TX3) (N := 11) hx hb hts inG_X3 hown hK hP 0 rfl rfl 1 (by decide) (hts _ mg_366) (fun _ h9 => h9) rfl dX3_read_95 ?_
          refine lv_iload hx hb dX3_read_98 (lv_at hl 1 rfl) ?_
          obtain ⟨hin, hf⟩ := gs_gd_e hf
          refine va_iald hx hb hK hP 1 0 rfl rfl hin dX3_read_100 ?_
          refine lv_i2l (v := (σ7 1 ((4 * (r1 / 3)) + (r1 - r1 / 3 * 3)).toNatClampNeg).toInt64) hx hb dX3_read_101 rfl ?_
          exact W.lret (v := (σ7 1 ((4 * (r1 / 3)) + (r1 - r1 / 3 * 3)).toNatClampNeg).toInt64) hx hb hr (fun t ht hW => u_rl (Option.some.inj hf) ht hW hP hK hD hS) hS.2.2 dX3_read_102
      · have hf := gs_f hf hq
        refine lv_ldc2 hx hb hown (hts _ mg_424) dX3_read_67 ?_
        exact W.lret (v := (-3000000000000)) hx hb hr (fun t ht hW => u_rl (Option.some.inj hf) ht hW hP hK hD hS) hS.2.2 dX3_read_70
    · have hf := gs_t hf hq
      refine lv_aload_n hx hb dX3_read_36 rfl (lv_at hl 2 rfl) ?_
      refine lv_iload hx hb dX3_read_37 (lv_at hl 0 rfl) ?_
      obtain ⟨r8, σ9, hc, hf⟩ := gs_ob_e hf
      have hF := u_free hD hS hA
      refine u_calli (va_runV (As := [.int ((4 * (r1 / 3)) + (r1 - r1 / 3 * 3))]) (rest := []) ⟨hx, hb, hml, hown, hts⟩ (ct_X3_wrong l dC dI h k T σ2 H.size ((4 * (r1 / 3)) + (r1 - r1 / 3 * 3)) _ hc) (cwV 1 hts (gd_V mg_410 mg_411 mg_20 mg_36 mg_412) rfl rfl rfl (by decide +kernel) ⟨Nat.le_of_ble_eq_true rfl, Nat.le_of_ble_eq_true rfl⟩) (u_preV zB_g hK hP hD hS hF hZ (va_recv hK hP (ci := 3) (q0 := 0) rfl rfl)) rfl rfl hl.1 rfl (lv_room (Nat.le_of_ble_eq_true rfl)) dX3_read_39 ⟨Nat.le_refl _, Nat.le_refl _⟩) hS hF (fun H locs hP hD hS => ?_)
      refine lv_if_eq (tgt := 49) hx hb dX3_read_42 (by decide) (fun hq => ?_) (fun hq => ?_)
      · have hf := gs_t hf hq
        refine lv_iconst (v := 0) hx hb dX3_read_49 (by decide) ?_
        refine lv_istore (lv' := [(5, .int 0), (4, .int ((4 * (r1 / 3)) + (r1 - r1 / 3 * 3))), (3, .int r1), (0, .ref (h 0)), (1, .int x1), (2, .int x2)]) hx hb dX3_read_50 hl (by decide) rfl (fun ls hl => ?_)
        refine lv_iload hx hb dX3_read_52 (lv_at hl 0 rfl) ?_
        refine lv_if_eq (tgt := 71) hx hb dX3_read_54 (by decide) (fun hq => ?_) (fun hq => absurd hq (by decide))
        refine lv_aload_n hx hb dX3_read_71 rfl (lv_at hl 3 rfl) ?_
        refine lv_iload hx hb dX3_read_72 (lv_at hl 1 rfl) ?_
        obtain ⟨r10, σ11, hc, hf⟩ := gs_ob_e hf
        have hF := u_free hD hS hA
        refine u_calli (va_runV (As := [.int ((4 * (r1 / 3)) + (r1 - r1 / 3 * 3))]) (rest := []) ⟨hx, hb, hml, hown, hts⟩ (ct_X3_wrong l dC dI h k T σ9 H.size ((4 * (r1 / 3)) + (r1 - r1 / 3 * 3)) _ hc) (cwV 1 hts (gd_V mg_410 mg_411 mg_20 mg_36 mg_412) rfl rfl rfl (by decide +kernel) ⟨Nat.le_of_ble_eq_true rfl, Nat.le_of_ble_eq_true rfl⟩) (u_preV zB_g hK hP hD hS hF hZ (va_recv hK hP (ci := 3) (q0 := 0) rfl rfl)) rfl rfl hl.1 rfl (lv_room (Nat.le_of_ble_eq_true rfl)) dX3_read_74 ⟨Nat.le_refl _, Nat.le_refl _⟩) hS hF (fun H locs hP hD hS => ?_)
        refine lv_if_eq (tgt := 94) hx hb dX3_read_77 (by decide) (fun hq => ?_) (fun hq => ?_)
        · have hf := gs_t hf hq
          refine lv_aload_n hx hb dX3_read_94 rfl (lv_at hl 3 rfl) ?_
          refine va_get (D := (dC, dI)) (ci := 3) (v := .ref (h 1)) (C := RX3) (T := TX3) (N := 11) hx hb hts inG_X3 hown hK hP 0 rfl rfl 1 (by decide) (hts _ mg_366) (fun _ h9 => h9) rfl dX3_read_95 ?_
          refine lv_iload hx hb dX3_read_98 (lv_at hl 1 rfl) ?_
          obtain ⟨hin, hf⟩ := gs_gd_e hf
          refine va_iald hx hb hK hP 1 0 rfl rfl hin dX3_read_100 ?_
          refine lv_i2l (v := (σ11 1 ((4 * (r1 / 3)) + (r1 - r1 / 3 * 3)).toNatClampNeg).toInt64) hx hb dX3_read_101 rfl ?_
          exact W.lret (v := (σ11 1 ((4 * (r1 / 3)) + (r1 - r1 / 3 * 3)).toNatClampNeg).toInt64) hx hb hr (fun t ht hW => u_rl (Option.some.inj hf) ht hW hP hK hD hS) hS.2.2 dX3_read_102
        · have hf := gs_f hf hq
          refine lv_aload_n hx hb dX3_read_80 rfl (lv_at hl 3 rfl) ?_
          refine va_get (D := (dC, dI)) (ci := 3) (v := .ref (h 2)) (C := RX3) (T := TX3) (N := 11) hx hb hts inG_X3 hown hK hP 0 rfl rfl 2 (by decide) (hts _ mg_367) (fun _ h9 => h9) rfl dX3_read_81 ?_
          refine lv_iload hx hb dX3_read_84 (lv_at hl 1 rfl) ?_
          refine lv_aload_n hx hb dX3_read_86 rfl (lv_at hl 3 rfl) ?_
          refine va_get (D := (dC, dI)) (ci := 3) (v := .ref (h 1)) (C := RX3) (T := TX3) (N := 11) hx hb hts inG_X3 hown hK hP 0 rfl rfl 1 (by decide) (hts _ mg_366) (fun _ h9 => h9) rfl dX3_read_87 ?_
          refine lv_iload hx hb dX3_read_90 (lv_at hl 1 rfl) ?_
          obtain ⟨hin, hf⟩ := gs_gd_e hf
          refine va_iald hx hb hK hP 1 0 rfl rfl hin dX3_read_92 ?_
          obtain ⟨hin, hf⟩ := gs_gd_e hf
          refine va_iast hx hb hK hP hD hS 2 1 rfl rfl hin dX3_read_93 (fun H locs hP hD hS => ?_)
          obtain ⟨σ12, es, hf⟩ := gs_lt_e hf
          have hP : va_P (dC, dI) vwCl (wB h k T σ12) H := by rw [es]; exact hP
          have hD : va_D A (wB h k T σ12) := by rw [es]; exact hD
          clear es
          refine lv_aload_n hx hb dX3_read_94 rfl (lv_at hl 3 rfl) ?_
          refine va_get (D := (dC, dI)) (ci := 3) (v := .ref (h 1)) (C := RX3) (T := TX3) (N := 11) hx hb hts inG_X3 hown hK hP 0 rfl rfl 1 (by decide) (hts _ mg_366) (fun _ h9 => h9) rfl dX3_read_95 ?_
          refine lv_iload hx hb dX3_read_98 (lv_at hl 1 rfl) ?_
          obtain ⟨hin, hf⟩ := gs_gd_e hf
          refine va_iald hx hb hK hP 1 0 rfl rfl hin dX3_read_100 ?_
          refine lv_i2l (v := (σ12 1 ((4 * (r1 / 3)) + (r1 - r1 / 3 * 3)).toNatClampNeg).toInt64) hx hb dX3_read_101 rfl ?_
          exact W.lret (v := (σ12 1 ((4 * (r1 / 3)) + (r1 - r1 / 3 * 3)).toNatClampNeg).toInt64) hx hb hr (fun t ht hW => u_rl (Option.some.inj hf) ht hW hP hK hD hS) hS.2.2 dX3_read_102
      · have hf := gs_f hf hq
        refine lv_iconst (v := 1) hx hb dX3_read_45 (by decide) ?_
        refine lv_goto (tgt := 50) hx hb dX3_read_46 (by decide) ?_
        refine lv_istore (lv' := [(5, .int 1), (4, .int ((4 * (r1 / 3)) + (r1 - r1 / 3 * 3))), (3, .int r1), (0, .ref (h 0)), (1, .int x1), (2, .int x2)]) hx hb dX3_read_50 hl (by decide) rfl (fun ls hl => ?_)
        refine lv_iload hx hb dX3_read_52 (lv_at hl 0 rfl) ?_
        refine lv_if_eq (tgt := 71) hx hb dX3_read_54 (by decide) (fun hq => absurd hq (by decide)) (fun hq => ?_)
        refine lv_aload_n hx hb dX3_read_57 rfl (lv_at hl 3 rfl) ?_
        refine lv_iload_n hx hb dX3_read_58 rfl (lv_at hl 2 rfl) ?_
        refine lv_iconst (v := 3) hx hb dX3_read_59 (by decide) ?_
        refine lv_idiv hx hb dX3_read_60 (by decide) ?_
        obtain ⟨r13, σ14, hc, hf⟩ := gs_ob_e hf
        have hF := u_free hD hS hA
        refine u_calli (va_runV (As := [.int (r1 / 3)]) (rest := []) ⟨hx, hb, hml, hown, hts⟩ (ct_X3_broken l dC dI h k T σ9 H.size (r1 / 3) _ hc) (cwV 1 hts (gd_V mg_407 mg_408 mg_19 mg_36 mg_409) rfl rfl rfl (by decide +kernel) ⟨Nat.le_of_ble_eq_true rfl, Nat.le_of_ble_eq_true rfl⟩) (u_preV zB_g hK hP hD hS hF hZ (va_recv hK hP (ci := 3) (q0 := 0) rfl rfl)) rfl rfl hl.1 rfl (lv_room (Nat.le_of_ble_eq_true rfl)) dX3_read_61 ⟨Nat.le_refl _, Nat.le_refl _⟩) hS hF (fun H locs hP hD hS => ?_)
        refine lv_if_eq (tgt := 71) hx hb dX3_read_64 (by decide) (fun hq => ?_) (fun hq => ?_)
        · have hf := gs_t hf hq
          refine lv_aload_n hx hb dX3_read_71 rfl (lv_at hl 3 rfl) ?_
          refine lv_iload hx hb dX3_read_72 (lv_at hl 1 rfl) ?_
          obtain ⟨r15, σ16, hc, hf⟩ := gs_ob_e hf
          have hF := u_free hD hS hA
          refine u_calli (va_runV (As := [.int ((4 * (r1 / 3)) + (r1 - r1 / 3 * 3))]) (rest := []) ⟨hx, hb, hml, hown, hts⟩ (ct_X3_wrong l dC dI h k T σ14 H.size ((4 * (r1 / 3)) + (r1 - r1 / 3 * 3)) _ hc) (cwV 1 hts (gd_V mg_410 mg_411 mg_20 mg_36 mg_412) rfl rfl rfl (by decide +kernel) ⟨Nat.le_of_ble_eq_true rfl, Nat.le_of_ble_eq_true rfl⟩) (u_preV zB_g hK hP hD hS hF hZ (va_recv hK hP (ci := 3) (q0 := 0) rfl rfl)) rfl rfl hl.1 rfl (lv_room (Nat.le_of_ble_eq_true rfl)) dX3_read_74 ⟨Nat.le_refl _, Nat.le_refl _⟩) hS hF (fun H locs hP hD hS => ?_)
          refine lv_if_eq (tgt := 94) hx hb dX3_read_77 (by decide) (fun hq => ?_) (fun hq => ?_)
          · have hf := gs_t hf hq
            refine lv_aload_n hx hb dX3_read_94 rfl (lv_at hl 3 rfl) ?_
            refine va_get (D := (dC, dI)) (ci := 3) (v := .ref (h 1)) (C := RX3) (T := TX3) (N := 11) hx hb hts inG_X3 hown hK hP 0 rfl rfl 1 (by decide) (hts _ mg_366) (fun _ h9 => h9) rfl dX3_read_95 ?_
            refine lv_iload hx hb dX3_read_98 (lv_at hl 1 rfl) ?_
            obtain ⟨hin, hf⟩ := gs_gd_e hf
            refine va_iald hx hb hK hP 1 0 rfl rfl hin dX3_read_100 ?_
            refine lv_i2l (v := (σ16 1 ((4 * (r1 / 3)) + (r1 - r1 / 3 * 3)).toNatClampNeg).toInt64) hx hb dX3_read_101 rfl ?_
            exact W.lret (v := (σ16 1 ((4 * (r1 / 3)) + (r1 - r1 / 3 * 3)).toNatClampNeg).toInt64) hx hb hr (fun t ht hW => u_rl (Option.some.inj hf) ht hW hP hK hD hS) hS.2.2 dX3_read_102
          · have hf := gs_f hf hq
            refine lv_aload_n hx hb dX3_read_80 rfl (lv_at hl 3 rfl) ?_
            refine va_get (D := (dC, dI)) (ci := 3) (v := .ref (h 2)) (C := RX3) (T := TX3) (N := 11) hx hb hts inG_X3 hown hK hP 0 rfl rfl 2 (by decide) (hts _ mg_367) (fun _ h9 => h9) rfl dX3_read_81 ?_
            refine lv_iload hx hb dX3_read_84 (lv_at hl 1 rfl) ?_
            refine lv_aload_n hx hb dX3_read_86 rfl (lv_at hl 3 rfl) ?_
            refine va_get (D := (dC, dI)) (ci := 3) (v := .ref (h 1)) (C := RX3) (T := TX3) (N := 11) hx hb hts inG_X3 hown hK hP 0 rfl rfl 1 (by decide) (hts _ mg_366) (fun _ h9 => h9) rfl dX3_read_87 ?_
            refine lv_iload hx hb dX3_read_90 (lv_at hl 1 rfl) ?_
            obtain ⟨hin, hf⟩ := gs_gd_e hf
            refine va_iald hx hb hK hP 1 0 rfl rfl hin dX3_read_92 ?_
            obtain ⟨hin, hf⟩ := gs_gd_e hf
            refine va_iast hx hb hK hP hD hS 2 1 rfl rfl hin dX3_read_93 (fun H locs hP hD hS => ?_)
            obtain ⟨σ17, es, hf⟩ := gs_lt_e hf
            have hP : va_P (dC, dI) vwCl (wB h k T σ17) H := by rw [es]; exact hP
            have hD : va_D A (wB h k T σ17) := by rw [es]; exact hD
            clear es
            refine lv_aload_n hx hb dX3_read_94 rfl (lv_at hl 3 rfl) ?_
            refine va_get (D := (dC, dI)) (ci := 3) (v := .ref (h 1)) (C := RX3) (T := TX3) (N := 11) hx hb hts inG_X3 hown hK hP 0 rfl rfl 1 (by decide) (hts _ mg_366) (fun _ h9 => h9) rfl dX3_read_95 ?_
            refine lv_iload hx hb dX3_read_98 (lv_at hl 1 rfl) ?_
            obtain ⟨hin, hf⟩ := gs_gd_e hf
            refine va_iald hx hb hK hP 1 0 rfl rfl hin dX3_read_100 ?_
            refine lv_i2l (v := (σ17 1 ((4 * (r1 / 3)) + (r1 - r1 / 3 * 3)).toNatClampNeg).toInt64) hx hb dX3_read_101 rfl ?_
            exact W.lret (v := (σ17 1 ((4 * (r1 / 3)) + (r1 - r1 / 3 * 3)).toNatClampNeg).toInt64) hx hb hr (fun t ht hW => u_rl (Option.some.inj hf) ht hW hP hK hD hS) hS.2.2 dX3_read_102
        · have hf := gs_f hf hq
          refine lv_ldc2 hx hb hown (hts _ mg_424) dX3_read_67 ?_
          exact W.lret (v := (-3000000000000)) hx hb hr (fun t ht hW => u_rl (Option.some.inj hf) ht hW hP hK hD hS) hS.2.2 dX3_read_70
  · have hf := gs_f hf hq
    refine lv_ldc2 hx hb hown (hts _ mg_423) dX3_read_11 ?_
    exact W.lret (v := (-1000000000000)) hx hb hr (fun t ht hW => u_rl (Option.some.inj hf) ht hW hP hK hD hS) hS.2.2 dX3_read_14
set_option maxHeartbeats 4000000 in
set_option maxRecDepth 100000 in
theorem ct_X3_spare (l : Launch) (dC : Nat → ClassId) (dI : Nat → Nat → Nat) (h : Nat → Nat) (k : Nat → ClassId) (T : Nat) (σ : gS) (sz : Nat) (x1 : Int32) (y : Int32 × gS) (hf : fn_X3_spare T x1 σ = some y) : Met l yX3_spare wsX3_spare ({ frames := 0, cells := 0, slots := 0, locals := 0 }) (va_Pc [.ref (h 0), .int x1] (uPre (dC, dI) vwCl (tB k) (wB h k T) zB σ sz)) (va_Qi (fun r u => (r, u) = y) (uAt (dC, dI) vwCl (tB k) (wB h k T) (va_A (wB h k T σ) sz)) (va_A (wB h k T σ) sz)) 0 0 (va_A (wB h k T σ) sz) := by
  refine Met.ofW (cc := cX3_spare) (maxL := 2) (ret := (some .int)) (by decide) rfl ?_
  intro p e s m args below meth c s₁ B hml hv
  obtain ⟨rfl, hsz, hP, hK, hD0, hZ⟩ := hv
  have hx := B.exec
  have hb := B.bytes
  have hr := B.returns
  have hts : ∀ w ∈ gG, w.before _ s = true := fun w h => atoms_spec (ws := wsX3_spare) B.pre w (List.mem_cons_of_mem _ h)
  have hown : s.vm.findClass RX3 = some m.cls := findClass_of_methodNamed B.named
  have hlocks := B.notSynchronized
  subst hsz
  have hD := hD0.self (sz := s.heap.size)
  generalize hAe : va_A (wB h k T σ) s.heap.size = A at hD hZ ⊢
  have hA : ∀ q : Nat, s.heap.size ≤ q → A q := fun q h => by rw [← hAe]; exact Or.inr h
  have hS : va_S A s.heap s.heap [] := va_S.rf
  have hl := lv_entry ([.ref (h 0), .int x1]) (n := 2) (Nat.le_of_ble_eq_true rfl)
  rw [lg_entry_eq]
  generalize (lg_sl ([.ref (h 0), .int x1]) ++ List.replicate (2 - (lg_sl ([.ref (h 0), .int x1])).length) Slot.unset).toArray = ls at hl ⊢
  have hl : lv_has ls 2 [(0, .ref (h 0)), (1, .int x1)] := hl
  rw [fn_X3_spare] at hf
  refine lv_iload_n hx hb dX3_spare_0 rfl (lv_at hl 1 rfl) ?_
  refine lv_iconst (v := 4) hx hb dX3_spare_1 (by decide) ?_
  refine lv_idiv hx hb dX3_spare_2 (by decide) ?_
  refine lv_bipush (v := 7) hx hb dX3_spare_3 (by decide) ?_
  refine lv_irem hx hb dX3_spare_5 (by decide) ?_
  exact W.iret (v := (x1 / 4) - (x1 / 4) / 7 * 7) hx hb hr (fun t ht hW => u_ri (Option.some.inj hf) ht hW hP hK hD hS) hS.2.2 dX3_spare_6
