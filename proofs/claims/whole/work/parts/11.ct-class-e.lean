set_option maxHeartbeats 4000000 in
set_option maxRecDepth 100000 in
theorem ct_X1_bringHome (l : Launch) (dC : Nat → ClassId) (dI : Nat → Nat → Nat) (h : Nat → Nat) (k : Nat → ClassId) (T : Nat) (σ : gS) (sz : Nat) (x1 : Int32) (y : Int32 × gS) (hf : fn_X1_bringHome T x1 σ = some y) : Met l yX1_bringHome wsX1_bringHome ({ frames := 1, cells := 0, slots := 0, locals := 21 }) (va_Pc [.ref (h 1), .int x1] (uPre (dC, dI) vwCl (tA k) (wA h k T) zA σ sz)) (va_Qi (fun r u => (r, u) = y) (uAt (dC, dI) vwCl (tA k) (wA h k T) (va_A (wA h k T σ) sz)) (va_A (wA h k T σ) sz)) 0 0 (va_A (wA h k T σ) sz) := by
  refine Met.ofW (cc := cX1_bringHome) (maxL := 4) (ret := (some .int)) (by decide) rfl ?_
  intro p e s m args below meth c s₁ B hml hv
  obtain ⟨rfl, hsz, hP, hK, hD0, hZ⟩ := hv
  have hx := B.exec
  have hb := B.bytes
  have hr := B.returns
  have hts : ∀ w ∈ gG, w.before _ s = true := fun w h => atoms_spec (ws := wsX1_bringHome) B.pre w (List.mem_cons_of_mem _ h)
  have hown : s.vm.findClass RX1 = some m.cls := findClass_of_methodNamed B.named
  have hlocks := B.notSynchronized
  subst hsz
  have hD := hD0.self (sz := s.heap.size)
  generalize hAe : va_A (wA h k T σ) s.heap.size = A at hD hZ ⊢
  have hA : ∀ q : Nat, s.heap.size ≤ q → A q := fun q h => by rw [← hAe]; exact Or.inr h
  have hS : va_S A s.heap s.heap [] := va_S.rf
  obtain ⟨t0, hZ0, hT0, hN0⟩ := id hZ
  have L4 : ∀ (n : Nat), ∀ (z1 : Int32) (z2 : Int32) (z3 : Int32) (σ : gS) (H : Heap) (locs : List Loc) (ls : Array Slot), fn_X1_bringHome_L4 T n z1 z2 z3 σ = some y → va_P (dC, dI) vwCl (wA h k T σ) H → va_D A (wA h k T σ) → va_S A s.heap H locs → lv_has ls 4 [(0, .ref (h 1)), (1, .int z1), (2, .int z2), (3, .int z3)] → W p l e ({ frames := 1, cells := 0, slots := 0, locals := 21 }) s m ([.ref (h 1), .int x1] : List Value).toArray below meth c H locs 0 0 (MQ below (va_Qi (fun r u => (r, u) = y) (uAt (dC, dI) vwCl (tA k) (wA h k T) A) A) ([.ref (h 1), .int x1] : List Value).toArray s 0 0 A) (F0 m 4 ls []) := by
    intro n
    induction n with
    | zero => intro z1 z2 z3 σ H locs ls hf; exact absurd hf (by rw [fn_X1_bringHome_L4]; exact nofun)
    | succ n ih =>
      intro z1 z2 z3 σ H locs ls hf hP hD hS hl
      rw [fn_X1_bringHome_L4] at hf
      refine lv_iload_n hx hb dX1_bringHome_4 rfl (lv_at hl 3 rfl) ?_
      refine lv_aload_n hx hb dX1_bringHome_5 rfl (lv_at hl 0 rfl) ?_
      refine va_get (D := (dC, dI)) (ci := 1) (v := .int (σ 6 0)) (C := RX1) (T := TX1) (N := 7) hx hb hts inG_X1 hown hK hP 1 rfl rfl 0 (by decide) (hts _ mg_57) (fun _ h9 => h9) rfl dX1_bringHome_6 ?_
      refine lv_icmp_ge (tgt := 61) hx hb dX1_bringHome_9 (by decide) (fun hq => ?_) (fun hq => ?_)
      · have hf := gs_t hf hq
        refine lv_iload_n hx hb dX1_bringHome_61 rfl (lv_at hl 2 rfl) ?_
        exact W.iret (v := z2) hx hb hr (fun t ht hW => u_ri (Option.some.inj hf) ht hW hP hK hD hS) hS.2.2 dX1_bringHome_62
      · have hf := gs_f hf hq
        refine lv_iload_n hx hb dX1_bringHome_12 rfl (lv_at hl 2 rfl) ?_
        refine lv_iload_n hx hb dX1_bringHome_13 rfl (lv_at hl 1 rfl) ?_
        refine lv_icmp_ge (tgt := 61) hx hb dX1_bringHome_14 (by decide) (fun hq => ?_) (fun hq => ?_)
        · have hf := gs_t hf hq
          refine lv_iload_n hx hb dX1_bringHome_61 rfl (lv_at hl 2 rfl) ?_
          exact W.iret (v := z2) hx hb hr (fun t ht hW => u_ri (Option.some.inj hf) ht hW hP hK hD hS) hS.2.2 dX1_bringHome_62
        · have hf := gs_f hf hq
          refine lv_aload_n hx hb dX1_bringHome_17 rfl (lv_at hl 0 rfl) ?_
          refine va_get (D := (dC, dI)) (ci := 1) (v := .ref (h 6)) (C := RX1) (T := TX1) (N := 7) hx hb hts inG_X1 hown hK hP 1 rfl rfl 5 (by decide) (hts _ mg_62) (fun _ h9 => h9) rfl dX1_bringHome_18 ?_
          refine lv_iload_n hx hb dX1_bringHome_21 rfl (lv_at hl 3 rfl) ?_
          obtain ⟨hin, hf⟩ := gs_gd_e hf
          refine va_iald hx hb hK hP 6 4 rfl rfl hin dX1_bringHome_22 ?_
          refine lv_iconst (v := 4) hx hb dX1_bringHome_23 (by decide) ?_
          refine lv_icmp_eq (tgt := 55) hx hb dX1_bringHome_24 (by decide) (fun hq => ?_) (fun hq => ?_)
          · have hf := gs_t hf hq
            refine lv_iinc (v := z3 + 1) (lv' := [(3, .int (z3 + 1)), (0, .ref (h 1)), (1, .int z1), (2, .int z2)]) hx hb dX1_bringHome_55 hl (k := 3) rfl rfl (by decide) rfl (fun ls hl => ?_)
            refine lv_goto (tgt := 4) hx hb dX1_bringHome_58 (by decide) ?_
            exact ih z1 z2 (z3 + 1) σ _ _ _ hf hP hD hS (lv_sub hl [1, 2, 3, 0] rfl)
          · have hf := gs_f hf hq
            refine lv_aload_n hx hb dX1_bringHome_27 rfl (lv_at hl 0 rfl) ?_
            refine va_get (D := (dC, dI)) (ci := 1) (v := .ref (h 2)) (C := RX1) (T := TX1) (N := 7) hx hb hts inG_X1 hown hK hP 1 rfl rfl 1 (by decide) (hts _ mg_58) (fun _ h9 => h9) rfl dX1_bringHome_28 ?_
            refine lv_iload_n hx hb dX1_bringHome_31 rfl (lv_at hl 3 rfl) ?_
            refine lv_aload_n hx hb dX1_bringHome_32 rfl (lv_at hl 0 rfl) ?_
            refine va_get (D := (dC, dI)) (ci := 1) (v := .ref (h 6)) (C := RX1) (T := TX1) (N := 7) hx hb hts inG_X1 hown hK hP 1 rfl rfl 5 (by decide) (hts _ mg_62) (fun _ h9 => h9) rfl dX1_bringHome_33 ?_
            refine lv_iload_n hx hb dX1_bringHome_36 rfl (lv_at hl 3 rfl) ?_
            obtain ⟨hin, hf⟩ := gs_gd_e hf
            refine va_iald hx hb hK hP 6 4 rfl rfl hin dX1_bringHome_37 ?_
            obtain ⟨r1, σ2, hc, hf⟩ := gs_ob_e hf
            have hF := u_free hD hS hA
            refine u_calli (va_runS (As := [.int z3, .int (σ 4 z3.toNatClampNeg)]) (rest := [.ref (h 2)]) ⟨hx, hb, hml, hown, hts⟩ (ct_X1_home l dC dI h k T σ H.size z3 (σ 4 z3.toNatClampNeg) _ hc) (va_cwS 2 hts (gd_S mg_227 mg_228 mg_34 mg_229) rfl rfl rfl (by decide +kernel) ⟨Nat.le_of_ble_eq_true rfl, Nat.le_of_ble_eq_true rfl⟩) (u_preS zA_g hK hP hD hS hF hZ) rfl rfl hl.1 rfl (lv_room (Nat.le_of_ble_eq_true rfl)) dX1_bringHome_38 ⟨Nat.le_refl _, Nat.le_refl _⟩) hS hF (fun H locs hP hD hS => ?_)
            obtain ⟨hin, hf⟩ := gs_gd_e hf
            refine va_zald hx hb hK hP 2 0 rfl rfl hin dX1_bringHome_41 ?_
            refine lv_if_eq (tgt := 55) hx hb dX1_bringHome_42 (by decide) (fun hq => ?_) (fun hq => ?_)
            · have hf := gs_t hf hq
              refine lv_iinc (v := z3 + 1) (lv' := [(3, .int (z3 + 1)), (0, .ref (h 1)), (1, .int z1), (2, .int z2)]) hx hb dX1_bringHome_55 hl (k := 3) rfl rfl (by decide) rfl (fun ls hl => ?_)
              refine lv_goto (tgt := 4) hx hb dX1_bringHome_58 (by decide) ?_
              exact ih z1 z2 (z3 + 1) σ2 _ _ _ hf hP hD hS (lv_sub hl [1, 2, 3, 0] rfl)
            · have hf := gs_f hf hq
              refine lv_aload_n hx hb dX1_bringHome_45 rfl (lv_at hl 0 rfl) ?_
              refine va_get (D := (dC, dI)) (ci := 1) (v := .ref (h 6)) (C := RX1) (T := TX1) (N := 7) hx hb hts inG_X1 hown hK hP 1 rfl rfl 5 (by decide) (hts _ mg_62) (fun _ h9 => h9) rfl dX1_bringHome_46 ?_
              refine lv_iload_n hx hb dX1_bringHome_49 rfl (lv_at hl 3 rfl) ?_
              refine lv_iconst (v := 4) hx hb dX1_bringHome_50 (by decide) ?_
              obtain ⟨hin, hf⟩ := gs_gd_e hf
              refine va_iast hx hb hK hP hD hS 6 4 rfl rfl hin dX1_bringHome_51 (fun H locs hP hD hS => ?_)
              obtain ⟨σ3, es, hf⟩ := gs_lt_e hf
              have hP : va_P (dC, dI) vwCl (wA h k T σ3) H := by rw [es]; exact hP
              have hD : va_D A (wA h k T σ3) := by rw [es]; exact hD
              clear es
              refine lv_iinc (v := z2 + 1) (lv' := [(2, .int (z2 + 1)), (0, .ref (h 1)), (1, .int z1), (3, .int z3)]) hx hb dX1_bringHome_52 hl (k := 2) rfl rfl (by decide) rfl (fun ls hl => ?_)
              refine lv_iinc (v := z3 + 1) (lv' := [(3, .int (z3 + 1)), (2, .int (z2 + 1)), (0, .ref (h 1)), (1, .int z1)]) hx hb dX1_bringHome_55 hl (k := 3) rfl rfl (by decide) rfl (fun ls hl => ?_)
              refine lv_goto (tgt := 4) hx hb dX1_bringHome_58 (by decide) ?_
              exact ih z1 (z2 + 1) (z3 + 1) σ3 _ _ _ hf hP hD hS (lv_sub hl [2, 3, 1, 0] rfl)
  have hl := lv_entry ([.ref (h 1), .int x1]) (n := 4) (Nat.le_of_ble_eq_true rfl)
  rw [lg_entry_eq]
  generalize (lg_sl ([.ref (h 1), .int x1]) ++ List.replicate (4 - (lg_sl ([.ref (h 1), .int x1])).length) Slot.unset).toArray = ls at hl ⊢
  have hl : lv_has ls 4 [(0, .ref (h 1)), (1, .int x1)] := hl
  rw [fn_X1_bringHome] at hf
  refine lv_iconst (v := 0) hx hb dX1_bringHome_0 (by decide) ?_
  refine lv_istore_n (lv' := [(2, .int 0), (0, .ref (h 1)), (1, .int x1)]) hx hb dX1_bringHome_1 rfl hl (by decide) rfl (fun ls hl => ?_)
  refine lv_iconst (v := 0) hx hb dX1_bringHome_2 (by decide) ?_
  refine lv_istore_n (lv' := [(3, .int 0), (2, .int 0), (0, .ref (h 1)), (1, .int x1)]) hx hb dX1_bringHome_3 rfl hl (by decide) rfl (fun ls hl => ?_)
  exact L4 gs_fu x1 0 0 σ _ _ _ hf hP hD hS (lv_sub hl [2, 3, 1, 0] rfl)
set_option maxHeartbeats 4000000 in
set_option maxRecDepth 100000 in
theorem ct_X2_moveBack (l : Launch) (dC : Nat → ClassId) (dI : Nat → Nat → Nat) (h : Nat → Nat) (k : Nat → ClassId) (T : Nat) (σ : gS) (sz : Nat) (x1 : Int32) (y : Int32 × gS) (hf : fn_X2_moveBack T x1 σ = some y) : Met l yX2_moveBack wsX2_moveBack ({ frames := 2, cells := 0, slots := 0, locals := 44 }) (va_Pc [.ref (h 0), .int x1] (uPre (dC, dI) vwCl (tA k) (wA h k T) zA σ sz)) (va_Qi (fun r u => (r, u) = y) (uAt (dC, dI) vwCl (tA k) (wA h k T) (va_A (wA h k T σ) sz)) (va_A (wA h k T σ) sz)) 0 0 (va_A (wA h k T σ) sz) := by
  refine Met.ofW (cc := cX2_moveBack) (maxL := 2) (ret := (some .int)) (by decide) rfl ?_
  intro p e s m args below meth c s₁ B hml hv
  obtain ⟨rfl, hsz, hP, hK, hD0, hZ⟩ := hv
  have hx := B.exec
  have hb := B.bytes
  have hr := B.returns
  have hts : ∀ w ∈ gG, w.before _ s = true := fun w h => atoms_spec (ws := wsX2_moveBack) B.pre w (List.mem_cons_of_mem _ h)
  have hown : s.vm.findClass RX2 = some m.cls := findClass_of_methodNamed B.named
  have hlocks := B.notSynchronized
  subst hsz
  have hD := hD0.self (sz := s.heap.size)
  generalize hAe : va_A (wA h k T σ) s.heap.size = A at hD hZ ⊢
  have hA : ∀ q : Nat, s.heap.size ≤ q → A q := fun q h => by rw [← hAe]; exact Or.inr h
  have hS : va_S A s.heap s.heap [] := va_S.rf
  obtain ⟨t0, hZ0, hT0, hN0⟩ := id hZ
  have hl := lv_entry ([.ref (h 0), .int x1]) (n := 2) (Nat.le_of_ble_eq_true rfl)
  rw [lg_entry_eq]
  generalize (lg_sl ([.ref (h 0), .int x1]) ++ List.replicate (2 - (lg_sl ([.ref (h 0), .int x1])).length) Slot.unset).toArray = ls at hl ⊢
  have hl : lv_has ls 2 [(0, .ref (h 0)), (1, .int x1)] := hl
  rw [fn_X2_moveBack] at hf
  refine lv_iload_n hx hb dX2_moveBack_0 rfl (lv_at hl 1 rfl) ?_
  obtain ⟨r1, σ2, hc, hf⟩ := gs_ob_e hf
  have hF := u_free hD hS hA
  refine u_calli (va_runS (As := [.int x1]) (rest := []) ⟨hx, hb, hml, hown, hts⟩ (ct_X2_isAmount l dC dI h k T σ s.heap.size x1 _ hc) (va_cwS 1 hts (gd_S mg_260 mg_261 mg_32 mg_262) rfl rfl rfl (by decide +kernel) ⟨Nat.le_of_ble_eq_true rfl, Nat.le_of_ble_eq_true rfl⟩) (u_preS zA_g hK hP hD hS hF hZ) rfl rfl hl.1 rfl (lv_room (Nat.le_of_ble_eq_true rfl)) dX2_moveBack_1 ⟨Nat.le_refl _, Nat.le_refl _⟩) hS hF (fun H locs hP hD hS => ?_)
  refine lv_if_eq (tgt := 18) hx hb dX2_moveBack_4 (by decide) (fun hq => ?_) (fun hq => ?_)
  · have hf := gs_t hf hq
    refine lv_iconst (v := (-1)) hx hb dX2_moveBack_18 (by decide) ?_
    exact W.iret (v := (-1)) hx hb hr (fun t ht hW => u_ri (Option.some.inj hf) ht hW hP hK hD hS) hS.2.2 dX2_moveBack_19
  · have hf := gs_f hf hq
    refine lv_aload_n hx hb dX2_moveBack_7 rfl (lv_at hl 0 rfl) ?_
    refine va_get (D := (dC, dI)) (ci := 2) (v := .ref (h 1)) (C := RX2) (T := TX2) (N := 2) hx hb hts inG_X2 hown hK hP 0 rfl rfl 0 (by decide) (hts _ mg_77) (fun _ h9 => h9) rfl dX2_moveBack_8 ?_
    refine lv_iload_n hx hb dX2_moveBack_11 rfl (lv_at hl 1 rfl) ?_
    obtain ⟨r3, σ4, hc, hf⟩ := gs_ob_e hf
    have hF := u_free hD hS hA
    refine u_calli (va_runV (As := [.int x1]) (rest := []) ⟨hx, hb, hml, hown, hts⟩ (ct_X1_bringHome l dC dI h k T σ2 H.size x1 _ hc) (cwV 1 hts (gd_V mg_281 mg_282 mg_283 mg_34 mg_284) rfl rfl rfl (by decide +kernel) ⟨Nat.le_of_ble_eq_true rfl, Nat.le_of_ble_eq_true rfl⟩) (u_preV zA_g hK hP hD hS hF hZ (va_recv hK hP (ci := 1) (q0 := 1) rfl rfl)) rfl rfl hl.1 rfl (lv_room (Nat.le_of_ble_eq_true rfl)) dX2_moveBack_12 ⟨Nat.le_refl _, Nat.le_refl _⟩) hS hF (fun H locs hP hD hS => ?_)
    refine lv_goto (tgt := 19) hx hb dX2_moveBack_15 (by decide) ?_
    exact W.iret (v := r3) hx hb hr (fun t ht hW => u_ri (Option.some.inj hf) ht hW hP hK hD hS) hS.2.2 dX2_moveBack_19
set_option maxHeartbeats 4000000 in
set_option maxRecDepth 100000 in
theorem ct_X1_visit (l : Launch) (dC : Nat → ClassId) (dI : Nat → Nat → Nat) (h : Nat → Nat) (k : Nat → ClassId) (T : Nat) (σ : gS) (sz : Nat) (x1 : Int32) (y : Int32 × gS) (hf : fn_X1_visit T x1 σ = some y) : Met l yX1_visit wsX1_visit ({ frames := 4, cells := 0, slots := 0, locals := 90 }) (va_Pc [.ref (h 1), .int x1] (uPre (dC, dI) vwCl (tA k) (wA h k T) zA σ sz)) (va_Qi (fun r u => (r, u) = y) (uAt (dC, dI) vwCl (tA k) (wA h k T) (va_A (wA h k T σ) sz)) (va_A (wA h k T σ) sz)) 0 0 (va_A (wA h k T σ) sz) := by
  refine Met.ofW (cc := cX1_visit) (maxL := 4) (ret := (some .int)) (by decide) rfl ?_
  intro p e s m args below meth c s₁ B hml hv
  obtain ⟨rfl, hsz, hP, hK, hD0, hZ⟩ := hv
  have hx := B.exec
  have hb := B.bytes
  have hr := B.returns
  have hts : ∀ w ∈ gG, w.before _ s = true := fun w h => atoms_spec (ws := wsX1_visit) B.pre w (List.mem_cons_of_mem _ h)
  have hown : s.vm.findClass RX1 = some m.cls := findClass_of_methodNamed B.named
  have hlocks := B.notSynchronized
  subst hsz
  have hD := hD0.self (sz := s.heap.size)
  generalize hAe : va_A (wA h k T σ) s.heap.size = A at hD hZ ⊢
  have hA : ∀ q : Nat, s.heap.size ≤ q → A q := fun q h => by rw [← hAe]; exact Or.inr h
  have hS : va_S A s.heap s.heap [] := va_S.rf
  obtain ⟨t0, hZ0, hT0, hN0⟩ := id hZ
  have L4 : ∀ (n : Nat), ∀ (z1 : Int32) (z2 : Int32) (z3 : Int32) (σ : gS) (H : Heap) (locs : List Loc) (ls : Array Slot), fn_X1_visit_L4 T n z1 z2 z3 σ = some y → va_P (dC, dI) vwCl (wA h k T σ) H → va_D A (wA h k T σ) → va_S A s.heap H locs → lv_has ls 4 [(0, .ref (h 1)), (1, .int z1), (2, .int z2), (3, .int z3)] → W p l e ({ frames := 4, cells := 0, slots := 0, locals := 90 }) s m ([.ref (h 1), .int x1] : List Value).toArray below meth c H locs 0 0 (MQ below (va_Qi (fun r u => (r, u) = y) (uAt (dC, dI) vwCl (tA k) (wA h k T) A) A) ([.ref (h 1), .int x1] : List Value).toArray s 0 0 A) (F0 m 4 ls []) := by
    intro n
    induction n with
    | zero => intro z1 z2 z3 σ H locs ls hf; exact absurd hf (by rw [fn_X1_visit_L4]; exact nofun)
    | succ n ih =>
      intro z1 z2 z3 σ H locs ls hf hP hD hS hl
      rw [fn_X1_visit_L4] at hf
      refine lv_iload_n hx hb dX1_visit_4 rfl (lv_at hl 3 rfl) ?_
      refine lv_iload_n hx hb dX1_visit_5 rfl (lv_at hl 1 rfl) ?_
      refine lv_icmp_ge (tgt := 64) hx hb dX1_visit_6 (by decide) (fun hq => ?_) (fun hq => ?_)
      · have hf := gs_t hf hq
        refine lv_iload_n hx hb dX1_visit_64 rfl (lv_at hl 2 rfl) ?_
        exact W.iret (v := z2) hx hb hr (fun t ht hW => u_ri (Option.some.inj hf) ht hW hP hK hD hS) hS.2.2 dX1_visit_65
      · have hf := gs_f hf hq
        refine lv_aload_n hx hb dX1_visit_9 rfl (lv_at hl 0 rfl) ?_
        refine lv_aload_n hx hb dX1_visit_10 rfl (lv_at hl 0 rfl) ?_
        refine va_get (D := (dC, dI)) (ci := 1) (v := .int (σ 5 0)) (C := RX1) (T := TX1) (N := 7) hx hb hts inG_X1 hown hK hP 1 rfl rfl 6 (by decide) (hts _ mg_63) (fun _ h9 => h9) rfl dX1_visit_11 ?_
        obtain ⟨r1, σ2, hc, hf⟩ := gs_ob_e hf
        have hF := u_free hD hS hA
        refine u_calli (va_runV (As := [.int (σ 5 0)]) (rest := []) ⟨hx, hb, hml, hown, hts⟩ (ct_X1_isBroken l dC dI h k T σ H.size (σ 5 0) _ hc) (cwV 1 hts (gd_V mg_273 mg_153 mg_154 mg_34 mg_155) rfl rfl rfl (by decide +kernel) ⟨Nat.le_of_ble_eq_true rfl, Nat.le_of_ble_eq_true rfl⟩) (u_preV zA_g hK hP hD hS hF hZ (va_recv hK hP (ci := 1) (q0 := 1) rfl rfl)) rfl rfl hl.1 rfl (lv_room (Nat.le_of_ble_eq_true rfl)) dX1_visit_14 ⟨Nat.le_refl _, Nat.le_refl _⟩) hS hF (fun H locs hP hD hS => ?_)
        refine lv_if_ne (tgt := 31) hx hb dX1_visit_17 (by decide) (fun hq => ?_) (fun hq => ?_)
        · have hf := gs_f hf hq
          refine lv_aload_n hx hb dX1_visit_31 rfl (lv_at hl 0 rfl) ?_
          refine lv_aload_n hx hb dX1_visit_32 rfl (lv_at hl 0 rfl) ?_
          refine va_get (D := (dC, dI)) (ci := 1) (v := .int (σ2 5 0)) (C := RX1) (T := TX1) (N := 7) hx hb hts inG_X1 hown hK hP 1 rfl rfl 6 (by decide) (hts _ mg_63) (fun _ h9 => h9) rfl dX1_visit_33 ?_
          refine lv_iconst (v := 1) hx hb dX1_visit_36 (by decide) ?_
          refine lv_iadd hx hb dX1_visit_37 ?_
          refine lv_aload_n hx hb dX1_visit_38 rfl (lv_at hl 0 rfl) ?_
          refine va_get (D := (dC, dI)) (ci := 1) (v := .int (σ2 6 0)) (C := RX1) (T := TX1) (N := 7) hx hb hts inG_X1 hown hK hP 1 rfl rfl 0 (by decide) (hts _ mg_57) (fun _ h9 => h9) rfl dX1_visit_39 ?_
          refine lv_icmp_ge (tgt := 54) hx hb dX1_visit_42 (by decide) (fun hq => ?_) (fun hq => ?_)
          · have hf := gs_t hf hq
            refine lv_iconst (v := 0) hx hb dX1_visit_54 (by decide) ?_
            refine va_put (D := (dC, dI)) (ci := 1) (v := .int 0) (ty := .int) (C := RX1) (T := TX1) (N := 7) hx hb hts inG_X1 tyX1 tyX1_ok nmX1 hown hK hP hD hS 1 rfl rfl 6 (by decide) (hts _ mg_63) (fun _ h9 => h9) rfl (by decide +kernel) rfl rfl (Nat.le_of_ble_eq_true rfl) dX1_visit_55 (fun H locs hP hD hS => ?_)
            obtain ⟨σ3, es, hf⟩ := gs_lt_e hf
            have hP : va_P (dC, dI) vwCl (wA h k T σ3) H := by rw [es]; exact hP
            have hD : va_D A (wA h k T σ3) := by rw [es]; exact hD
            clear es
            refine lv_iinc (v := z3 + 1) (lv' := [(3, .int (z3 + 1)), (0, .ref (h 1)), (1, .int z1), (2, .int z2)]) hx hb dX1_visit_58 hl (k := 3) rfl rfl (by decide) rfl (fun ls hl => ?_)
            refine lv_goto (tgt := 4) hx hb dX1_visit_61 (by decide) ?_
            exact ih z1 z2 (z3 + 1) σ3 _ _ _ hf hP hD hS (lv_sub hl [1, 2, 3, 0] rfl)
          · have hf := gs_f hf hq
            refine lv_aload_n hx hb dX1_visit_45 rfl (lv_at hl 0 rfl) ?_
            refine va_get (D := (dC, dI)) (ci := 1) (v := .int (σ2 5 0)) (C := RX1) (T := TX1) (N := 7) hx hb hts inG_X1 hown hK hP 1 rfl rfl 6 (by decide) (hts _ mg_63) (fun _ h9 => h9) rfl dX1_visit_46 ?_
            refine lv_iconst (v := 1) hx hb dX1_visit_49 (by decide) ?_
            refine lv_iadd hx hb dX1_visit_50 ?_
            refine lv_goto (tgt := 55) hx hb dX1_visit_51 (by decide) ?_
            refine va_put (D := (dC, dI)) (ci := 1) (v := .int ((σ2 5 0) + 1)) (ty := .int) (C := RX1) (T := TX1) (N := 7) hx hb hts inG_X1 tyX1 tyX1_ok nmX1 hown hK hP hD hS 1 rfl rfl 6 (by decide) (hts _ mg_63) (fun _ h9 => h9) rfl (by decide +kernel) rfl rfl (Nat.le_of_ble_eq_true rfl) dX1_visit_55 (fun H locs hP hD hS => ?_)
            obtain ⟨σ4, es, hf⟩ := gs_lt_e hf
            have hP : va_P (dC, dI) vwCl (wA h k T σ4) H := by rw [es]; exact hP
            have hD : va_D A (wA h k T σ4) := by rw [es]; exact hD
            clear es
            refine lv_iinc (v := z3 + 1) (lv' := [(3, .int (z3 + 1)), (0, .ref (h 1)), (1, .int z1), (2, .int z2)]) hx hb dX1_visit_58 hl (k := 3) rfl rfl (by decide) rfl (fun ls hl => ?_)
            refine lv_goto (tgt := 4) hx hb dX1_visit_61 (by decide) ?_
            exact ih z1 z2 (z3 + 1) σ4 _ _ _ hf hP hD hS (lv_sub hl [1, 2, 3, 0] rfl)
        · have hf := gs_t hf hq
          refine lv_iload_n hx hb dX1_visit_20 rfl (lv_at hl 2 rfl) ?_
          refine lv_aload_n hx hb dX1_visit_21 rfl (lv_at hl 0 rfl) ?_
          refine lv_aload_n hx hb dX1_visit_22 rfl (lv_at hl 0 rfl) ?_
          refine va_get (D := (dC, dI)) (ci := 1) (v := .int (σ2 5 0)) (C := RX1) (T := TX1) (N := 7) hx hb hts inG_X1 hown hK hP 1 rfl rfl 6 (by decide) (hts _ mg_63) (fun _ h9 => h9) rfl dX1_visit_23 ?_
          obtain ⟨r5, σ6, hc, hf⟩ := gs_ob_e hf
          have hF := u_free hD hS hA
          refine u_calli (va_runV (As := [.int (σ2 5 0)]) (rest := [.int z2]) ⟨hx, hb, hml, hown, hts⟩ (ct_X1_mendAll l dC dI h k T σ2 H.size (σ2 5 0) _ hc) (cwV 1 hts (gd_V mg_293 mg_172 mg_173 mg_34 mg_174) rfl rfl rfl (by decide +kernel) ⟨Nat.le_of_ble_eq_true rfl, Nat.le_of_ble_eq_true rfl⟩) (u_preV zA_g hK hP hD hS hF hZ (va_recv hK hP (ci := 1) (q0 := 1) rfl rfl)) rfl rfl hl.1 rfl (lv_room (Nat.le_of_ble_eq_true rfl)) dX1_visit_26 ⟨Nat.le_refl _, Nat.le_refl _⟩) hS hF (fun H locs hP hD hS => ?_)
          refine lv_iadd hx hb dX1_visit_29 ?_
          refine lv_istore_n (lv' := [(2, .int (z2 + r5)), (0, .ref (h 1)), (1, .int z1), (3, .int z3)]) hx hb dX1_visit_30 rfl hl (by decide) rfl (fun ls hl => ?_)
          refine lv_aload_n hx hb dX1_visit_31 rfl (lv_at hl 1 rfl) ?_
          refine lv_aload_n hx hb dX1_visit_32 rfl (lv_at hl 1 rfl) ?_
          refine va_get (D := (dC, dI)) (ci := 1) (v := .int (σ6 5 0)) (C := RX1) (T := TX1) (N := 7) hx hb hts inG_X1 hown hK hP 1 rfl rfl 6 (by decide) (hts _ mg_63) (fun _ h9 => h9) rfl dX1_visit_33 ?_
          refine lv_iconst (v := 1) hx hb dX1_visit_36 (by decide) ?_
          refine lv_iadd hx hb dX1_visit_37 ?_
          refine lv_aload_n hx hb dX1_visit_38 rfl (lv_at hl 1 rfl) ?_
          refine va_get (D := (dC, dI)) (ci := 1) (v := .int (σ6 6 0)) (C := RX1) (T := TX1) (N := 7) hx hb hts inG_X1 hown hK hP 1 rfl rfl 0 (by decide) (hts _ mg_57) (fun _ h9 => h9) rfl dX1_visit_39 ?_
          refine lv_icmp_ge (tgt := 54) hx hb dX1_visit_42 (by decide) (fun hq => ?_) (fun hq => ?_)
          · have hf := gs_t hf hq
            refine lv_iconst (v := 0) hx hb dX1_visit_54 (by decide) ?_
            refine va_put (D := (dC, dI)) (ci := 1) (v := .int 0) (ty := .int) (C := RX1) (T := TX1) (N := 7) hx hb hts inG_X1 tyX1 tyX1_ok nmX1 hown hK hP hD hS 1 rfl rfl 6 (by decide) (hts _ mg_63) (fun _ h9 => h9) rfl (by decide +kernel) rfl rfl (Nat.le_of_ble_eq_true rfl) dX1_visit_55 (fun H locs hP hD hS => ?_)
            obtain ⟨σ7, es, hf⟩ := gs_lt_e hf
            have hP : va_P (dC, dI) vwCl (wA h k T σ7) H := by rw [es]; exact hP
            have hD : va_D A (wA h k T σ7) := by rw [es]; exact hD
            clear es
            refine lv_iinc (v := z3 + 1) (lv' := [(3, .int (z3 + 1)), (2, .int (z2 + r5)), (0, .ref (h 1)), (1, .int z1)]) hx hb dX1_visit_58 hl (k := 3) rfl rfl (by decide) rfl (fun ls hl => ?_)
            refine lv_goto (tgt := 4) hx hb dX1_visit_61 (by decide) ?_
            exact ih z1 (z2 + r5) (z3 + 1) σ7 _ _ _ hf hP hD hS (lv_sub hl [2, 3, 1, 0] rfl)
          · have hf := gs_f hf hq
            refine lv_aload_n hx hb dX1_visit_45 rfl (lv_at hl 1 rfl) ?_
            refine va_get (D := (dC, dI)) (ci := 1) (v := .int (σ6 5 0)) (C := RX1) (T := TX1) (N := 7) hx hb hts inG_X1 hown hK hP 1 rfl rfl 6 (by decide) (hts _ mg_63) (fun _ h9 => h9) rfl dX1_visit_46 ?_
            refine lv_iconst (v := 1) hx hb dX1_visit_49 (by decide) ?_
            refine lv_iadd hx hb dX1_visit_50 ?_
            refine lv_goto (tgt := 55) hx hb dX1_visit_51 (by decide) ?_
            refine va_put (D := (dC, dI)) (ci := 1) (v := .int ((σ6 5 0) + 1)) (ty := .int) (C := RX1) (T := TX1) (N := 7) hx hb hts inG_X1 tyX1 tyX1_ok nmX1 hown hK hP hD hS 1 rfl rfl 6 (by decide) (hts _ mg_63) (fun _ h9 => h9) rfl (by decide +kernel) rfl rfl (Nat.le_of_ble_eq_true rfl) dX1_visit_55 (fun H locs hP hD hS => ?_)
            obtain ⟨σ8, es, hf⟩ := gs_lt_e hf
            have hP : va_P (dC, dI) vwCl (wA h k T σ8) H := by rw [es]; exact hP
            have hD : va_D A (wA h k T σ8) := by rw [es]; exact hD
            clear es
            refine lv_iinc (v := z3 + 1) (lv' := [(3, .int (z3 + 1)), (2, .int (z2 + r5)), (0, .ref (h 1)), (1, .int z1)]) hx hb dX1_visit_58 hl (k := 3) rfl rfl (by decide) rfl (fun ls hl => ?_)
            refine lv_goto (tgt := 4) hx hb dX1_visit_61 (by decide) ?_
            exact ih z1 (z2 + r5) (z3 + 1) σ8 _ _ _ hf hP hD hS (lv_sub hl [2, 3, 1, 0] rfl)
  have hl := lv_entry ([.ref (h 1), .int x1]) (n := 4) (Nat.le_of_ble_eq_true rfl)
  rw [lg_entry_eq]
  generalize (lg_sl ([.ref (h 1), .int x1]) ++ List.replicate (4 - (lg_sl ([.ref (h 1), .int x1])).length) Slot.unset).toArray = ls at hl ⊢
  have hl : lv_has ls 4 [(0, .ref (h 1)), (1, .int x1)] := hl
  rw [fn_X1_visit] at hf
  refine lv_iconst (v := 0) hx hb dX1_visit_0 (by decide) ?_
  refine lv_istore_n (lv' := [(2, .int 0), (0, .ref (h 1)), (1, .int x1)]) hx hb dX1_visit_1 rfl hl (by decide) rfl (fun ls hl => ?_)
  refine lv_iconst (v := 0) hx hb dX1_visit_2 (by decide) ?_
  refine lv_istore_n (lv' := [(3, .int 0), (2, .int 0), (0, .ref (h 1)), (1, .int x1)]) hx hb dX1_visit_3 rfl hl (by decide) rfl (fun ls hl => ?_)
  exact L4 gs_fu x1 0 0 σ _ _ _ hf hP hD hS (lv_sub hl [2, 3, 1, 0] rfl)
set_option maxHeartbeats 4000000 in
set_option maxRecDepth 100000 in
theorem ct_X2_scrub (l : Launch) (dC : Nat → ClassId) (dI : Nat → Nat → Nat) (h : Nat → Nat) (k : Nat → ClassId) (T : Nat) (σ : gS) (sz : Nat) (x1 : Int32) (y : Int32 × gS) (hf : fn_X2_scrub T x1 σ = some y) : Met l yX2_scrub wsX2_scrub ({ frames := 5, cells := 0, slots := 0, locals := 113 }) (va_Pc [.ref (h 0), .int x1] (uPre (dC, dI) vwCl (tA k) (wA h k T) zA σ sz)) (va_Qi (fun r u => (r, u) = y) (uAt (dC, dI) vwCl (tA k) (wA h k T) (va_A (wA h k T σ) sz)) (va_A (wA h k T σ) sz)) 0 0 (va_A (wA h k T σ) sz) := by
  refine Met.ofW (cc := cX2_scrub) (maxL := 2) (ret := (some .int)) (by decide) rfl ?_
  intro p e s m args below meth c s₁ B hml hv
  obtain ⟨rfl, hsz, hP, hK, hD0, hZ⟩ := hv
  have hx := B.exec
  have hb := B.bytes
  have hr := B.returns
  have hts : ∀ w ∈ gG, w.before _ s = true := fun w h => atoms_spec (ws := wsX2_scrub) B.pre w (List.mem_cons_of_mem _ h)
  have hown : s.vm.findClass RX2 = some m.cls := findClass_of_methodNamed B.named
  have hlocks := B.notSynchronized
  subst hsz
  have hD := hD0.self (sz := s.heap.size)
  generalize hAe : va_A (wA h k T σ) s.heap.size = A at hD hZ ⊢
  have hA : ∀ q : Nat, s.heap.size ≤ q → A q := fun q h => by rw [← hAe]; exact Or.inr h
  have hS : va_S A s.heap s.heap [] := va_S.rf
  obtain ⟨t0, hZ0, hT0, hN0⟩ := id hZ
  have hl := lv_entry ([.ref (h 0), .int x1]) (n := 2) (Nat.le_of_ble_eq_true rfl)
  rw [lg_entry_eq]
  generalize (lg_sl ([.ref (h 0), .int x1]) ++ List.replicate (2 - (lg_sl ([.ref (h 0), .int x1])).length) Slot.unset).toArray = ls at hl ⊢
  have hl : lv_has ls 2 [(0, .ref (h 0)), (1, .int x1)] := hl
  rw [fn_X2_scrub] at hf
  refine lv_iload_n hx hb dX2_scrub_0 rfl (lv_at hl 1 rfl) ?_
  obtain ⟨r1, σ2, hc, hf⟩ := gs_ob_e hf
  have hF := u_free hD hS hA
  refine u_calli (va_runS (As := [.int x1]) (rest := []) ⟨hx, hb, hml, hown, hts⟩ (ct_X2_isAmount l dC dI h k T σ s.heap.size x1 _ hc) (va_cwS 1 hts (gd_S mg_260 mg_261 mg_32 mg_262) rfl rfl rfl (by decide +kernel) ⟨Nat.le_of_ble_eq_true rfl, Nat.le_of_ble_eq_true rfl⟩) (u_preS zA_g hK hP hD hS hF hZ) rfl rfl hl.1 rfl (lv_room (Nat.le_of_ble_eq_true rfl)) dX2_scrub_1 ⟨Nat.le_refl _, Nat.le_refl _⟩) hS hF (fun H locs hP hD hS => ?_)
  refine lv_if_eq (tgt := 18) hx hb dX2_scrub_4 (by decide) (fun hq => ?_) (fun hq => ?_)
  · have hf := gs_t hf hq
    refine lv_iconst (v := (-1)) hx hb dX2_scrub_18 (by decide) ?_
    exact W.iret (v := (-1)) hx hb hr (fun t ht hW => u_ri (Option.some.inj hf) ht hW hP hK hD hS) hS.2.2 dX2_scrub_19
  · have hf := gs_f hf hq
    refine lv_aload_n hx hb dX2_scrub_7 rfl (lv_at hl 0 rfl) ?_
    refine va_get (D := (dC, dI)) (ci := 2) (v := .ref (h 1)) (C := RX2) (T := TX2) (N := 2) hx hb hts inG_X2 hown hK hP 0 rfl rfl 0 (by decide) (hts _ mg_77) (fun _ h9 => h9) rfl dX2_scrub_8 ?_
    refine lv_iload_n hx hb dX2_scrub_11 rfl (lv_at hl 1 rfl) ?_
    obtain ⟨r3, σ4, hc, hf⟩ := gs_ob_e hf
    have hF := u_free hD hS hA
    refine u_calli (va_runV (As := [.int x1]) (rest := []) ⟨hx, hb, hml, hown, hts⟩ (ct_X1_visit l dC dI h k T σ2 H.size x1 _ hc) (cwV 1 hts (gd_V mg_289 mg_290 mg_291 mg_34 mg_292) rfl rfl rfl (by decide +kernel) ⟨Nat.le_of_ble_eq_true rfl, Nat.le_of_ble_eq_true rfl⟩) (u_preV zA_g hK hP hD hS hF hZ (va_recv hK hP (ci := 1) (q0 := 1) rfl rfl)) rfl rfl hl.1 rfl (lv_room (Nat.le_of_ble_eq_true rfl)) dX2_scrub_12 ⟨Nat.le_refl _, Nat.le_refl _⟩) hS hF (fun H locs hP hD hS => ?_)
    refine lv_goto (tgt := 19) hx hb dX2_scrub_15 (by decide) ?_
    exact W.iret (v := r3) hx hb hr (fun t ht hW => u_ri (Option.some.inj hf) ht hW hP hK hD hS) hS.2.2 dX2_scrub_19
set_option maxHeartbeats 4000000 in
set_option maxRecDepth 100000 in
theorem ct_X2_file (l : Launch) (dC : Nat → ClassId) (dI : Nat → Nat → Nat) (h : Nat → Nat) (k : Nat → ClassId) (T : Nat) (σ : gS) (sz : Nat) (x1 : Int32) (x2 : Int32) (y : Int32 × gS) (hf : fn_X2_file T x1 x2 σ = some y) : Met l yX2_file wsX2_file ({ frames := 1, cells := 0, slots := 0, locals := 22 }) (va_Pc [.ref (h 0), .int x1, .int x2] (uPre (dC, dI) vwCl (tA k) (wA h k T) zA σ sz)) (va_Qi (fun r u => (r, u) = y) (uAt (dC, dI) vwCl (tA k) (wA h k T) (va_A (wA h k T σ) sz)) (va_A (wA h k T σ) sz)) 0 0 (va_A (wA h k T σ) sz) := by
  refine Met.ofW (cc := cX2_file) (maxL := 4) (ret := (some .int)) (by decide) rfl ?_
  intro p e s m args below meth c s₁ B hml hv
  obtain ⟨rfl, hsz, hP, hK, hD0, hZ⟩ := hv
  have hx := B.exec
  have hb := B.bytes
  have hr := B.returns
  have hts : ∀ w ∈ gG, w.before _ s = true := fun w h => atoms_spec (ws := wsX2_file) B.pre w (List.mem_cons_of_mem _ h)
  have hown : s.vm.findClass RX2 = some m.cls := findClass_of_methodNamed B.named
  have hlocks := B.notSynchronized
  subst hsz
  have hD := hD0.self (sz := s.heap.size)
  generalize hAe : va_A (wA h k T σ) s.heap.size = A at hD hZ ⊢
  have hA : ∀ q : Nat, s.heap.size ≤ q → A q := fun q h => by rw [← hAe]; exact Or.inr h
  have hS : va_S A s.heap s.heap [] := va_S.rf
  obtain ⟨t0, hZ0, hT0, hN0⟩ := id hZ
  have hl := lv_entry ([.ref (h 0), .int x1, .int x2]) (n := 4) (Nat.le_of_ble_eq_true rfl)
  rw [lg_entry_eq]
  generalize (lg_sl ([.ref (h 0), .int x1, .int x2]) ++ List.replicate (4 - (lg_sl ([.ref (h 0), .int x1, .int x2])).length) Slot.unset).toArray = ls at hl ⊢
  have hl : lv_has ls 4 [(0, .ref (h 0)), (1, .int x1), (2, .int x2)] := hl
  rw [fn_X2_file] at hf
  refine lv_iload_n hx hb dX2_file_0 rfl (lv_at hl 1 rfl) ?_
  obtain ⟨r1, σ2, hc, hf⟩ := gs_ob_e hf
  have hF := u_free hD hS hA
  refine u_calli (va_runS (As := [.int x1]) (rest := []) ⟨hx, hb, hml, hown, hts⟩ (ct_X2_isFile l dC dI h k T σ s.heap.size x1 _ hc) (va_cwS 1 hts (gd_S mg_83 mg_84 mg_32 mg_85) rfl rfl rfl (by decide +kernel) ⟨Nat.le_of_ble_eq_true rfl, Nat.le_of_ble_eq_true rfl⟩) (u_preS zA_g hK hP hD hS hF hZ) rfl rfl hl.1 rfl (lv_room (Nat.le_of_ble_eq_true rfl)) dX2_file_1 ⟨Nat.le_refl _, Nat.le_refl _⟩) hS hF (fun H locs hP hD hS => ?_)
  refine lv_if_eq (tgt := 17) hx hb dX2_file_4 (by decide) (fun hq => ?_) (fun hq => ?_)
  · have hf := gs_t hf hq
    refine lv_iconst (v := (-1)) hx hb dX2_file_17 (by decide) ?_
    exact W.iret (v := (-1)) hx hb hr (fun t ht hW => u_ri (Option.some.inj hf) ht hW hP hK hD hS) hS.2.2 dX2_file_18
  · have hf := gs_f hf hq
    refine lv_iload_n hx hb dX2_file_7 rfl (lv_at hl 2 rfl) ?_
    refine lv_if_lt (tgt := 17) hx hb dX2_file_8 (by decide) (fun hq => ?_) (fun hq => ?_)
    · have hf := gs_t hf hq
      refine lv_iconst (v := (-1)) hx hb dX2_file_17 (by decide) ?_
      exact W.iret (v := (-1)) hx hb hr (fun t ht hW => u_ri (Option.some.inj hf) ht hW hP hK hD hS) hS.2.2 dX2_file_18
    · have hf := gs_f hf hq
      refine lv_iload_n hx hb dX2_file_11 rfl (lv_at hl 2 rfl) ?_
      refine lv_bipush (v := 7) hx hb dX2_file_12 (by decide) ?_
      refine lv_icmp_le (tgt := 19) hx hb dX2_file_14 (by decide) (fun hq => ?_) (fun hq => ?_)
      · have hf := gs_t hf hq
        refine lv_iload_n hx hb dX2_file_19 rfl (lv_at hl 2 rfl) ?_
        refine lv_if_ne (tgt := 32) hx hb dX2_file_20 (by decide) (fun hq => ?_) (fun hq => ?_)
        · have hf := gs_f hf hq
          refine lv_iload_n hx hb dX2_file_32 rfl (lv_at hl 2 rfl) ?_
          refine lv_iconst (v := 1) hx hb dX2_file_33 (by decide) ?_
          refine lv_icmp_ne (tgt := 46) hx hb dX2_file_34 (by decide) (fun hq => ?_) (fun hq => ?_)
          · have hf := gs_f hf hq
            refine lv_iload_n hx hb dX2_file_46 rfl (lv_at hl 2 rfl) ?_
            refine lv_iconst (v := 2) hx hb dX2_file_47 (by decide) ?_
            refine lv_idiv hx hb dX2_file_48 (by decide) ?_
            refine lv_iconst (v := 1) hx hb dX2_file_49 (by decide) ?_
            refine lv_isub hx hb dX2_file_50 ?_
            refine lv_istore_n (lv' := [(3, .int ((x2 / 2) - 1)), (0, .ref (h 0)), (1, .int x1), (2, .int x2)]) hx hb dX2_file_51 rfl hl (by decide) rfl (fun ls hl => ?_)
            refine lv_iload_n hx hb dX2_file_52 rfl (lv_at hl 0 rfl) ?_
            refine lv_aload_n hx hb dX2_file_53 rfl (lv_at hl 1 rfl) ?_
            refine va_get (D := (dC, dI)) (ci := 2) (v := .ref (h 7)) (C := RX2) (T := TX2) (N := 2) hx hb hts inG_X2 hown hK hP 0 rfl rfl 1 (by decide) (hts _ mg_78) (fun _ h9 => h9) rfl dX2_file_54 ?_
            refine lv_iload_n hx hb dX2_file_57 rfl (lv_at hl 2 rfl) ?_
            obtain ⟨r3, σ4, hc, hf⟩ := gs_ob_e hf
            have hF := u_free hD hS hA
            refine u_calli (va_runV (As := [.int x1]) (rest := [.int ((x2 / 2) - 1)]) ⟨hx, hb, hml, hown, hts⟩ (ct_X0_extentsOf l dC dI h k T σ2 H.size x1 _ hc) (cwV 1 hts (gd_V mg_128 mg_129 mg_130 mg_35 mg_131) rfl rfl rfl (by decide +kernel) ⟨Nat.le_of_ble_eq_true rfl, Nat.le_of_ble_eq_true rfl⟩) (u_preV zA_g hK hP hD hS hF hZ (va_recv hK hP (ci := 0) (q0 := 7) rfl rfl)) rfl rfl hl.1 rfl (lv_room (Nat.le_of_ble_eq_true rfl)) dX2_file_58 ⟨Nat.le_refl _, Nat.le_refl _⟩) hS hF (fun H locs hP hD hS => ?_)
            refine lv_icmp_lt (tgt := 66) hx hb dX2_file_61 (by decide) (fun hq => ?_) (fun hq => ?_)
            · have hf := gs_t hf hq
              refine lv_iload_n hx hb dX2_file_66 rfl (lv_at hl 3 rfl) ?_
              refine lv_iconst (v := 2) hx hb dX2_file_67 (by decide) ?_
              refine lv_irem hx hb dX2_file_68 (by decide) ?_
              refine lv_if_ne (tgt := 84) hx hb dX2_file_69 (by decide) (fun hq => ?_) (fun hq => ?_)
              · have hf := gs_f hf hq
                refine lv_aload_n hx hb dX2_file_84 rfl (lv_at hl 1 rfl) ?_
                refine va_get (D := (dC, dI)) (ci := 2) (v := .ref (h 7)) (C := RX2) (T := TX2) (N := 2) hx hb hts inG_X2 hown hK hP 0 rfl rfl 1 (by decide) (hts _ mg_78) (fun _ h9 => h9) rfl dX2_file_85 ?_
                refine lv_iload_n hx hb dX2_file_88 rfl (lv_at hl 2 rfl) ?_
                refine lv_iload_n hx hb dX2_file_89 rfl (lv_at hl 0 rfl) ?_
                obtain ⟨r5, σ6, hc, hf⟩ := gs_ob_e hf
                have hF := u_free hD hS hA
                refine u_calli (va_runV (As := [.int x1, .int ((x2 / 2) - 1)]) (rest := []) ⟨hx, hb, hml, hown, hts⟩ (ct_X0_extentSize l dC dI h k T σ4 H.size x1 ((x2 / 2) - 1) _ hc) (cwV 2 hts (gd_V mg_299 mg_125 mg_126 mg_35 mg_127) rfl rfl rfl (by decide +kernel) ⟨Nat.le_of_ble_eq_true rfl, Nat.le_of_ble_eq_true rfl⟩) (u_preV zA_g hK hP hD hS hF hZ (va_recv hK hP (ci := 0) (q0 := 7) rfl rfl)) rfl rfl hl.1 rfl (lv_room (Nat.le_of_ble_eq_true rfl)) dX2_file_90 ⟨Nat.le_refl _, Nat.le_refl _⟩) hS hF (fun H locs hP hD hS => ?_)
                exact W.iret (v := r5) hx hb hr (fun t ht hW => u_ri (Option.some.inj hf) ht hW hP hK hD hS) hS.2.2 dX2_file_93
              · have hf := gs_t hf hq
                refine lv_aload_n hx hb dX2_file_72 rfl (lv_at hl 1 rfl) ?_
                refine va_get (D := (dC, dI)) (ci := 2) (v := .ref (h 7)) (C := RX2) (T := TX2) (N := 2) hx hb hts inG_X2 hown hK hP 0 rfl rfl 1 (by decide) (hts _ mg_78) (fun _ h9 => h9) rfl dX2_file_73 ?_
                refine lv_iload_n hx hb dX2_file_76 rfl (lv_at hl 2 rfl) ?_
                refine lv_iload_n hx hb dX2_file_77 rfl (lv_at hl 0 rfl) ?_
                obtain ⟨r7, σ8, hc, hf⟩ := gs_ob_e hf
                have hF := u_free hD hS hA
                refine u_calli (va_runV (As := [.int x1, .int ((x2 / 2) - 1)]) (rest := []) ⟨hx, hb, hml, hown, hts⟩ (ct_X0_extentStart l dC dI h k T σ4 H.size x1 ((x2 / 2) - 1) _ hc) (cwV 2 hts (gd_V mg_298 mg_121 mg_122 mg_35 mg_123) rfl rfl rfl (by decide +kernel) ⟨Nat.le_of_ble_eq_true rfl, Nat.le_of_ble_eq_true rfl⟩) (u_preV zA_g hK hP hD hS hF hZ (va_recv hK hP (ci := 0) (q0 := 7) rfl rfl)) rfl rfl hl.1 rfl (lv_room (Nat.le_of_ble_eq_true rfl)) dX2_file_78 ⟨Nat.le_refl _, Nat.le_refl _⟩) hS hF (fun H locs hP hD hS => ?_)
                refine lv_goto (tgt := 93) hx hb dX2_file_81 (by decide) ?_
                exact W.iret (v := r7) hx hb hr (fun t ht hW => u_ri (Option.some.inj hf) ht hW hP hK hD hS) hS.2.2 dX2_file_93
            · have hf := gs_f hf hq
              refine lv_iconst (v := (-1)) hx hb dX2_file_64 (by decide) ?_
              exact W.iret (v := (-1)) hx hb hr (fun t ht hW => u_ri (Option.some.inj hf) ht hW hP hK hD hS) hS.2.2 dX2_file_65
          · have hf := gs_t hf hq
            refine lv_aload_n hx hb dX2_file_37 rfl (lv_at hl 0 rfl) ?_
            refine va_get (D := (dC, dI)) (ci := 2) (v := .ref (h 7)) (C := RX2) (T := TX2) (N := 2) hx hb hts inG_X2 hown hK hP 0 rfl rfl 1 (by decide) (hts _ mg_78) (fun _ h9 => h9) rfl dX2_file_38 ?_
            refine lv_iload_n hx hb dX2_file_41 rfl (lv_at hl 1 rfl) ?_
            obtain ⟨r9, σ10, hc, hf⟩ := gs_ob_e hf
            have hF := u_free hD hS hA
            refine u_calli (va_runV (As := [.int x1]) (rest := []) ⟨hx, hb, hml, hown, hts⟩ (ct_X0_extentsOf l dC dI h k T σ2 H.size x1 _ hc) (cwV 1 hts (gd_V mg_128 mg_129 mg_130 mg_35 mg_131) rfl rfl rfl (by decide +kernel) ⟨Nat.le_of_ble_eq_true rfl, Nat.le_of_ble_eq_true rfl⟩) (u_preV zA_g hK hP hD hS hF hZ (va_recv hK hP (ci := 0) (q0 := 7) rfl rfl)) rfl rfl hl.1 rfl (lv_room (Nat.le_of_ble_eq_true rfl)) dX2_file_42 ⟨Nat.le_refl _, Nat.le_refl _⟩) hS hF (fun H locs hP hD hS => ?_)
            exact W.iret (v := r9) hx hb hr (fun t ht hW => u_ri (Option.some.inj hf) ht hW hP hK hD hS) hS.2.2 dX2_file_45
        · have hf := gs_t hf hq
          refine lv_aload_n hx hb dX2_file_23 rfl (lv_at hl 0 rfl) ?_
          refine va_get (D := (dC, dI)) (ci := 2) (v := .ref (h 7)) (C := RX2) (T := TX2) (N := 2) hx hb hts inG_X2 hown hK hP 0 rfl rfl 1 (by decide) (hts _ mg_78) (fun _ h9 => h9) rfl dX2_file_24 ?_
          refine lv_iload_n hx hb dX2_file_27 rfl (lv_at hl 1 rfl) ?_
          obtain ⟨r11, σ12, hc, hf⟩ := gs_ob_e hf
          have hF := u_free hD hS hA
          refine u_calli (va_runV (As := [.int x1]) (rest := []) ⟨hx, hb, hml, hown, hts⟩ (ct_X0_lengthOf l dC dI h k T σ2 H.size x1 _ hc) (cwV 1 hts (gd_V mg_144 mg_145 mg_146 mg_35 mg_147) rfl rfl rfl (by decide +kernel) ⟨Nat.le_of_ble_eq_true rfl, Nat.le_of_ble_eq_true rfl⟩) (u_preV zA_g hK hP hD hS hF hZ (va_recv hK hP (ci := 0) (q0 := 7) rfl rfl)) rfl rfl hl.1 rfl (lv_room (Nat.le_of_ble_eq_true rfl)) dX2_file_28 ⟨Nat.le_refl _, Nat.le_refl _⟩) hS hF (fun H locs hP hD hS => ?_)
          exact W.iret (v := r11) hx hb hr (fun t ht hW => u_ri (Option.some.inj hf) ht hW hP hK hD hS) hS.2.2 dX2_file_31
      · have hf := gs_f hf hq
        refine lv_iconst (v := (-1)) hx hb dX2_file_17 (by decide) ?_
        exact W.iret (v := (-1)) hx hb hr (fun t ht hW => u_ri (Option.some.inj hf) ht hW hP hK hD hS) hS.2.2 dX2_file_18
set_option maxHeartbeats 4000000 in
set_option maxRecDepth 100000 in
theorem ct_X1_condition (l : Launch) (dC : Nat → ClassId) (dI : Nat → Nat → Nat) (h : Nat → Nat) (k : Nat → ClassId) (T : Nat) (σ : gS) (sz : Nat) (x1 : Int32) (x2 : Int32) (y : Int32 × gS) (hf : fn_X1_condition T x1 x2 σ = some y) : Met l yX1_condition wsX1_condition ({ frames := 2, cells := 0, slots := 0, locals := 44 }) (va_Pc [.ref (h 1), .int x1, .int x2] (uPre (dC, dI) vwCl (tA k) (wA h k T) zA σ sz)) (va_Qi (fun r u => (r, u) = y) (uAt (dC, dI) vwCl (tA k) (wA h k T) (va_A (wA h k T σ) sz)) (va_A (wA h k T σ) sz)) 0 0 (va_A (wA h k T σ) sz) := by
  refine Met.ofW (cc := cX1_condition) (maxL := 3) (ret := (some .int)) (by decide) rfl ?_
  intro p e s m args below meth c s₁ B hml hv
  obtain ⟨rfl, hsz, hP, hK, hD0, hZ⟩ := hv
  have hx := B.exec
  have hb := B.bytes
  have hr := B.returns
  have hts : ∀ w ∈ gG, w.before _ s = true := fun w h => atoms_spec (ws := wsX1_condition) B.pre w (List.mem_cons_of_mem _ h)
  have hown : s.vm.findClass RX1 = some m.cls := findClass_of_methodNamed B.named
  have hlocks := B.notSynchronized
  subst hsz
  have hD := hD0.self (sz := s.heap.size)
  generalize hAe : va_A (wA h k T σ) s.heap.size = A at hD hZ ⊢
  have hA : ∀ q : Nat, s.heap.size ≤ q → A q := fun q h => by rw [← hAe]; exact Or.inr h
  have hS : va_S A s.heap s.heap [] := va_S.rf
  obtain ⟨t0, hZ0, hT0, hN0⟩ := id hZ
  have hl := lv_entry ([.ref (h 1), .int x1, .int x2]) (n := 3) (Nat.le_of_ble_eq_true rfl)
  rw [lg_entry_eq]
  generalize (lg_sl ([.ref (h 1), .int x1, .int x2]) ++ List.replicate (3 - (lg_sl ([.ref (h 1), .int x1, .int x2])).length) Slot.unset).toArray = ls at hl ⊢
  have hl : lv_has ls 3 [(0, .ref (h 1)), (1, .int x1), (2, .int x2)] := hl
  rw [fn_X1_condition] at hf
  refine lv_aload_n hx hb dX1_condition_0 rfl (lv_at hl 0 rfl) ?_
  refine lv_iload_n hx hb dX1_condition_1 rfl (lv_at hl 1 rfl) ?_
  refine lv_iload_n hx hb dX1_condition_2 rfl (lv_at hl 2 rfl) ?_
  obtain ⟨r1, σ2, hc, hf⟩ := gs_ob_e hf
  have hF := u_free hD hS hA
  refine u_calli (va_runV (As := [.int x1, .int x2]) (rest := []) ⟨hx, hb, hml, hown, hts⟩ (ct_X1_isLost l dC dI h k T σ s.heap.size x1 x2 _ hc) (cwV 2 hts (gd_V mg_160 mg_161 mg_162 mg_34 mg_163) rfl rfl rfl (by decide +kernel) ⟨Nat.le_of_ble_eq_true rfl, Nat.le_of_ble_eq_true rfl⟩) (u_preV zA_g hK hP hD hS hF hZ (va_recv hK hP (ci := 1) (q0 := 1) rfl rfl)) rfl rfl hl.1 rfl (lv_room (Nat.le_of_ble_eq_true rfl)) dX1_condition_3 ⟨Nat.le_refl _, Nat.le_refl _⟩) hS hF (fun H locs hP hD hS => ?_)
  refine lv_if_eq (tgt := 11) hx hb dX1_condition_6 (by decide) (fun hq => ?_) (fun hq => ?_)
  · have hf := gs_t hf hq
    refine lv_aload_n hx hb dX1_condition_11 rfl (lv_at hl 0 rfl) ?_
    refine lv_iload_n hx hb dX1_condition_12 rfl (lv_at hl 1 rfl) ?_
    refine lv_iload_n hx hb dX1_condition_13 rfl (lv_at hl 2 rfl) ?_
    obtain ⟨r3, σ4, hc, hf⟩ := gs_ob_e hf
    have hF := u_free hD hS hA
    refine u_calli (va_runV (As := [.int x1, .int x2]) (rest := []) ⟨hx, hb, hml, hown, hts⟩ (ct_X1_isWrong l dC dI h k T σ2 H.size x1 x2 _ hc) (cwV 2 hts (gd_V mg_167 mg_168 mg_169 mg_34 mg_170) rfl rfl rfl (by decide +kernel) ⟨Nat.le_of_ble_eq_true rfl, Nat.le_of_ble_eq_true rfl⟩) (u_preV zA_g hK hP hD hS hF hZ (va_recv hK hP (ci := 1) (q0 := 1) rfl rfl)) rfl rfl hl.1 rfl (lv_room (Nat.le_of_ble_eq_true rfl)) dX1_condition_14 ⟨Nat.le_refl _, Nat.le_refl _⟩) hS hF (fun H locs hP hD hS => ?_)
    refine lv_if_eq (tgt := 24) hx hb dX1_condition_17 (by decide) (fun hq => ?_) (fun hq => ?_)
    · have hf := gs_t hf hq
      refine lv_iconst (v := 0) hx hb dX1_condition_24 (by decide) ?_
      exact W.iret (v := 0) hx hb hr (fun t ht hW => u_ri (Option.some.inj hf) ht hW hP hK hD hS) hS.2.2 dX1_condition_25
    · have hf := gs_f hf hq
      refine lv_iconst (v := 1) hx hb dX1_condition_20 (by decide) ?_
      refine lv_goto (tgt := 25) hx hb dX1_condition_21 (by decide) ?_
      exact W.iret (v := 1) hx hb hr (fun t ht hW => u_ri (Option.some.inj hf) ht hW hP hK hD hS) hS.2.2 dX1_condition_25
  · have hf := gs_f hf hq
    refine lv_iconst (v := 2) hx hb dX1_condition_9 (by decide) ?_
    exact W.iret (v := 2) hx hb hr (fun t ht hW => u_ri (Option.some.inj hf) ht hW hP hK hD hS) hS.2.2 dX1_condition_10
set_option maxHeartbeats 4000000 in
set_option maxRecDepth 100000 in
theorem ct_X1_movedColumn (l : Launch) (dC : Nat → ClassId) (dI : Nat → Nat → Nat) (h : Nat → Nat) (k : Nat → ClassId) (T : Nat) (σ : gS) (sz : Nat) (x1 : Int32) (y : Int32 × gS) (hf : fn_X1_movedColumn T x1 σ = some y) : Met l yX1_movedColumn wsX1_movedColumn ({ frames := 0, cells := 0, slots := 0, locals := 0 }) (va_Pc [.ref (h 1), .int x1] (uPre (dC, dI) vwCl (tA k) (wA h k T) zA σ sz)) (va_Qi (fun r u => (r, u) = y) (uAt (dC, dI) vwCl (tA k) (wA h k T) (va_A (wA h k T σ) sz)) (va_A (wA h k T σ) sz)) 0 0 (va_A (wA h k T σ) sz) := by
  refine Met.ofW (cc := cX1_movedColumn) (maxL := 2) (ret := (some .int)) (by decide) rfl ?_
  intro p e s m args below meth c s₁ B hml hv
  obtain ⟨rfl, hsz, hP, hK, hD0, hZ⟩ := hv
  have hx := B.exec
  have hb := B.bytes
  have hr := B.returns
  have hts : ∀ w ∈ gG, w.before _ s = true := fun w h => atoms_spec (ws := wsX1_movedColumn) B.pre w (List.mem_cons_of_mem _ h)
  have hown : s.vm.findClass RX1 = some m.cls := findClass_of_methodNamed B.named
  have hlocks := B.notSynchronized
  subst hsz
  have hD := hD0.self (sz := s.heap.size)
  generalize hAe : va_A (wA h k T σ) s.heap.size = A at hD hZ ⊢
  have hA : ∀ q : Nat, s.heap.size ≤ q → A q := fun q h => by rw [← hAe]; exact Or.inr h
  have hS : va_S A s.heap s.heap [] := va_S.rf
  obtain ⟨t0, hZ0, hT0, hN0⟩ := id hZ
  have hl := lv_entry ([.ref (h 1), .int x1]) (n := 2) (Nat.le_of_ble_eq_true rfl)
  rw [lg_entry_eq]
  generalize (lg_sl ([.ref (h 1), .int x1]) ++ List.replicate (2 - (lg_sl ([.ref (h 1), .int x1])).length) Slot.unset).toArray = ls at hl ⊢
  have hl : lv_has ls 2 [(0, .ref (h 1)), (1, .int x1)] := hl
  rw [fn_X1_movedColumn] at hf
  refine lv_aload_n hx hb dX1_movedColumn_0 rfl (lv_at hl 0 rfl) ?_
  refine va_get (D := (dC, dI)) (ci := 1) (v := .ref (h 6)) (C := RX1) (T := TX1) (N := 7) hx hb hts inG_X1 hown hK hP 1 rfl rfl 5 (by decide) (hts _ mg_62) (fun _ h9 => h9) rfl dX1_movedColumn_1 ?_
  refine lv_iload_n hx hb dX1_movedColumn_4 rfl (lv_at hl 1 rfl) ?_
  obtain ⟨hin, hf⟩ := gs_gd_e hf
  refine va_iald hx hb hK hP 6 4 rfl rfl hin dX1_movedColumn_5 ?_
  exact W.iret (v := σ 4 x1.toNatClampNeg) hx hb hr (fun t ht hW => u_ri (Option.some.inj hf) ht hW hP hK hD hS) hS.2.2 dX1_movedColumn_6
set_option maxHeartbeats 4000000 in
set_option maxRecDepth 100000 in
theorem ct_X2_stripe (l : Launch) (dC : Nat → ClassId) (dI : Nat → Nat → Nat) (h : Nat → Nat) (k : Nat → ClassId) (T : Nat) (σ : gS) (sz : Nat) (x1 : Int32) (x2 : Int32) (y : Int32 × gS) (hf : fn_X2_stripe T x1 x2 σ = some y) : Met l yX2_stripe wsX2_stripe ({ frames := 4, cells := 0, slots := 0, locals := 89 }) (va_Pc [.ref (h 0), .int x1, .int x2] (uPre (dC, dI) vwCl (tA k) (wA h k T) zA σ sz)) (va_Qi (fun r u => (r, u) = y) (uAt (dC, dI) vwCl (tA k) (wA h k T) (va_A (wA h k T σ) sz)) (va_A (wA h k T σ) sz)) 0 0 (va_A (wA h k T σ) sz) := by
  refine Met.ofW (cc := cX2_stripe) (maxL := 3) (ret := (some .int)) (by decide) rfl ?_
  intro p e s m args below meth c s₁ B hml hv
  obtain ⟨rfl, hsz, hP, hK, hD0, hZ⟩ := hv
  have hx := B.exec
  have hb := B.bytes
  have hr := B.returns
  have hts : ∀ w ∈ gG, w.before _ s = true := fun w h => atoms_spec (ws := wsX2_stripe) B.pre w (List.mem_cons_of_mem _ h)
  have hown : s.vm.findClass RX2 = some m.cls := findClass_of_methodNamed B.named
  have hlocks := B.notSynchronized
  subst hsz
  have hD := hD0.self (sz := s.heap.size)
  generalize hAe : va_A (wA h k T σ) s.heap.size = A at hD hZ ⊢
  have hA : ∀ q : Nat, s.heap.size ≤ q → A q := fun q h => by rw [← hAe]; exact Or.inr h
  have hS : va_S A s.heap s.heap [] := va_S.rf
  obtain ⟨t0, hZ0, hT0, hN0⟩ := id hZ
  have hl := lv_entry ([.ref (h 0), .int x1, .int x2]) (n := 3) (Nat.le_of_ble_eq_true rfl)
  rw [lg_entry_eq]
  generalize (lg_sl ([.ref (h 0), .int x1, .int x2]) ++ List.replicate (3 - (lg_sl ([.ref (h 0), .int x1, .int x2])).length) Slot.unset).toArray = ls at hl ⊢
  have hl : lv_has ls 3 [(0, .ref (h 0)), (1, .int x1), (2, .int x2)] := hl
  rw [fn_X2_stripe] at hf
  refine lv_aload_n hx hb dX2_stripe_0 rfl (lv_at hl 0 rfl) ?_
  refine va_get (D := (dC, dI)) (ci := 2) (v := .ref (h 1)) (C := RX2) (T := TX2) (N := 2) hx hb hts inG_X2 hown hK hP 0 rfl rfl 0 (by decide) (hts _ mg_77) (fun _ h9 => h9) rfl dX2_stripe_1 ?_
  refine lv_iload_n hx hb dX2_stripe_4 rfl (lv_at hl 1 rfl) ?_
  obtain ⟨r1, σ2, hc, hf⟩ := gs_ob_e hf
  have hF := u_free hD hS hA
  refine u_calli (va_runV (As := [.int x1]) (rest := []) ⟨hx, hb, hml, hown, hts⟩ (ct_X1_isStripe l dC dI h k T σ s.heap.size x1 _ hc) (cwV 1 hts (gd_V mg_245 mg_246 mg_247 mg_34 mg_248) rfl rfl rfl (by decide +kernel) ⟨Nat.le_of_ble_eq_true rfl, Nat.le_of_ble_eq_true rfl⟩) (u_preV zA_g hK hP hD hS hF hZ (va_recv hK hP (ci := 1) (q0 := 1) rfl rfl)) rfl rfl hl.1 rfl (lv_room (Nat.le_of_ble_eq_true rfl)) dX2_stripe_5 ⟨Nat.le_refl _, Nat.le_refl _⟩) hS hF (fun H locs hP hD hS => ?_)
  refine lv_if_ne (tgt := 13) hx hb dX2_stripe_8 (by decide) (fun hq => ?_) (fun hq => ?_)
  · have hf := gs_f hf hq
    refine lv_iload_n hx hb dX2_stripe_13 rfl (lv_at hl 2 rfl) ?_
    obtain ⟨r3, σ4, hc, hf⟩ := gs_ob_e hf
    have hF := u_free hD hS hA
    refine u_calli (va_runS (As := [.int x2]) (rest := []) ⟨hx, hb, hml, hown, hts⟩ (ct_X2_isColumn l dC dI h k T σ2 H.size x2 _ hc) (va_cwS 1 hts (gd_S mg_249 mg_250 mg_32 mg_251) rfl rfl rfl (by decide +kernel) ⟨Nat.le_of_ble_eq_true rfl, Nat.le_of_ble_eq_true rfl⟩) (u_preS zA_g hK hP hD hS hF hZ) rfl rfl hl.1 rfl (lv_room (Nat.le_of_ble_eq_true rfl)) dX2_stripe_14 ⟨Nat.le_refl _, Nat.le_refl _⟩) hS hF (fun H locs hP hD hS => ?_)
    refine lv_if_eq (tgt := 30) hx hb dX2_stripe_17 (by decide) (fun hq => ?_) (fun hq => ?_)
    · have hf := gs_t hf hq
      refine lv_iload_n hx hb dX2_stripe_30 rfl (lv_at hl 2 rfl) ?_
      by_cases hq0 : x2 = 4
      · have hf := gs_t hf hq0
        refine lv_lookup (off := 25) (tgt := 56) hx hb dX2_stripe_31 (by decide) (by rw [hq0] <;> rfl) (by decide) ?_
        refine lv_aload_n hx hb dX2_stripe_56 rfl (lv_at hl 0 rfl) ?_
        refine va_get (D := (dC, dI)) (ci := 2) (v := .ref (h 1)) (C := RX2) (T := TX2) (N := 2) hx hb hts inG_X2 hown hK hP 0 rfl rfl 0 (by decide) (hts _ mg_77) (fun _ h9 => h9) rfl dX2_stripe_57 ?_
        refine lv_iload_n hx hb dX2_stripe_60 rfl (lv_at hl 1 rfl) ?_
        obtain ⟨r5, σ6, hc, hf⟩ := gs_ob_e hf
        have hF := u_free hD hS hA
        refine u_calli (va_runV (As := [.int x1]) (rest := []) ⟨hx, hb, hml, hown, hts⟩ (ct_X1_movedColumn l dC dI h k T σ4 H.size x1 _ hc) (cwV 1 hts (gd_V mg_308 mg_309 mg_310 mg_34 mg_311) rfl rfl rfl (by decide +kernel) ⟨Nat.le_of_ble_eq_true rfl, Nat.le_of_ble_eq_true rfl⟩) (u_preV zA_g hK hP hD hS hF hZ (va_recv hK hP (ci := 1) (q0 := 1) rfl rfl)) rfl rfl hl.1 rfl (lv_room (Nat.le_of_ble_eq_true rfl)) dX2_stripe_61 ⟨Nat.le_refl _, Nat.le_refl _⟩) hS hF (fun H locs hP hD hS => ?_)
        exact W.iret (v := r5) hx hb hr (fun t ht hW => u_ri (Option.some.inj hf) ht hW hP hK hD hS) hS.2.2 dX2_stripe_64
      · have hf := gs_f hf hq0
        by_cases hq1 : x2 = 5
        · have hf := gs_t hf hq1
          refine lv_lookup (off := 34) (tgt := 65) hx hb dX2_stripe_31 (by decide) (by rw [hq1] <;> rfl) (by decide) ?_
          refine lv_aload_n hx hb dX2_stripe_65 rfl (lv_at hl 0 rfl) ?_
          refine va_get (D := (dC, dI)) (ci := 2) (v := .ref (h 1)) (C := RX2) (T := TX2) (N := 2) hx hb hts inG_X2 hown hK hP 0 rfl rfl 0 (by decide) (hts _ mg_77) (fun _ h9 => h9) rfl dX2_stripe_66 ?_
          refine lv_iload_n hx hb dX2_stripe_69 rfl (lv_at hl 1 rfl) ?_
          obtain ⟨r7, σ8, hc, hf⟩ := gs_ob_e hf
          have hF := u_free hD hS hA
          refine u_calli (va_runV (As := [.int x1]) (rest := []) ⟨hx, hb, hml, hown, hts⟩ (ct_X1_isBroken l dC dI h k T σ4 H.size x1 _ hc) (cwV 1 hts (gd_V mg_152 mg_153 mg_154 mg_34 mg_155) rfl rfl rfl (by decide +kernel) ⟨Nat.le_of_ble_eq_true rfl, Nat.le_of_ble_eq_true rfl⟩) (u_preV zA_g hK hP hD hS hF hZ (va_recv hK hP (ci := 1) (q0 := 1) rfl rfl)) rfl rfl hl.1 rfl (lv_room (Nat.le_of_ble_eq_true rfl)) dX2_stripe_70 ⟨Nat.le_refl _, Nat.le_refl _⟩) hS hF (fun H locs hP hD hS => ?_)
          refine lv_if_eq (tgt := 80) hx hb dX2_stripe_73 (by decide) (fun hq => ?_) (fun hq => ?_)
          · have hf := gs_t hf hq
            refine lv_iconst (v := 0) hx hb dX2_stripe_80 (by decide) ?_
            exact W.iret (v := 0) hx hb hr (fun t ht hW => u_ri (Option.some.inj hf) ht hW hP hK hD hS) hS.2.2 dX2_stripe_81
          · have hf := gs_f hf hq
            refine lv_iconst (v := 1) hx hb dX2_stripe_76 (by decide) ?_
            refine lv_goto (tgt := 81) hx hb dX2_stripe_77 (by decide) ?_
            exact W.iret (v := 1) hx hb hr (fun t ht hW => u_ri (Option.some.inj hf) ht hW hP hK hD hS) hS.2.2 dX2_stripe_81
        · have hf := gs_f hf hq1
          refine lv_lookup (off := 51) (tgt := 82) hx hb dX2_stripe_31 (by decide) (by show Op.lookupswitch.offset [(4, 25), (5, 34)] 51 _ = 51; rw [lv_osw hq0 (by decide), lv_osw hq1 (by decide)] <;> rfl) (by decide) ?_
          refine lv_iconst (v := (-1)) hx hb dX2_stripe_82 (by decide) ?_
          exact W.iret (v := (-1)) hx hb hr (fun t ht hW => u_ri (Option.some.inj hf) ht hW hP hK hD hS) hS.2.2 dX2_stripe_83
    · have hf := gs_f hf hq
      refine lv_aload_n hx hb dX2_stripe_20 rfl (lv_at hl 0 rfl) ?_
      refine va_get (D := (dC, dI)) (ci := 2) (v := .ref (h 1)) (C := RX2) (T := TX2) (N := 2) hx hb hts inG_X2 hown hK hP 0 rfl rfl 0 (by decide) (hts _ mg_77) (fun _ h9 => h9) rfl dX2_stripe_21 ?_
      refine lv_iload_n hx hb dX2_stripe_24 rfl (lv_at hl 1 rfl) ?_
      refine lv_iload_n hx hb dX2_stripe_25 rfl (lv_at hl 2 rfl) ?_
      obtain ⟨r9, σ10, hc, hf⟩ := gs_ob_e hf
      have hF := u_free hD hS hA
      refine u_calli (va_runV (As := [.int x1, .int x2]) (rest := []) ⟨hx, hb, hml, hown, hts⟩ (ct_X1_condition l dC dI h k T σ4 H.size x1 x2 _ hc) (cwV 2 hts (gd_V mg_304 mg_305 mg_306 mg_34 mg_307) rfl rfl rfl (by decide +kernel) ⟨Nat.le_of_ble_eq_true rfl, Nat.le_of_ble_eq_true rfl⟩) (u_preV zA_g hK hP hD hS hF hZ (va_recv hK hP (ci := 1) (q0 := 1) rfl rfl)) rfl rfl hl.1 rfl (lv_room (Nat.le_of_ble_eq_true rfl)) dX2_stripe_26 ⟨Nat.le_refl _, Nat.le_refl _⟩) hS hF (fun H locs hP hD hS => ?_)
      exact W.iret (v := r9) hx hb hr (fun t ht hW => u_ri (Option.some.inj hf) ht hW hP hK hD hS) hS.2.2 dX2_stripe_29
  · have hf := gs_t hf hq
    refine lv_iconst (v := (-1)) hx hb dX2_stripe_11 (by decide) ?_
    exact W.iret (v := (-1)) hx hb hr (fun t ht hW => u_ri (Option.some.inj hf) ht hW hP hK hD hS) hS.2.2 dX2_stripe_12
set_option maxHeartbeats 4000000 in
set_option maxRecDepth 100000 in
theorem ct_X1_cellsOn (l : Launch) (dC : Nat → ClassId) (dI : Nat → Nat → Nat) (h : Nat → Nat) (k : Nat → ClassId) (T : Nat) (σ : gS) (sz : Nat) (x1 : Int32) (y : Int32 × gS) (hf : fn_X1_cellsOn T x1 σ = some y) : Met l yX1_cellsOn wsX1_cellsOn ({ frames := 3, cells := 0, slots := 0, locals := 66 }) (va_Pc [.ref (h 1), .int x1] (uPre (dC, dI) vwCl (tA k) (wA h k T) zA σ sz)) (va_Qi (fun r u => (r, u) = y) (uAt (dC, dI) vwCl (tA k) (wA h k T) (va_A (wA h k T σ) sz)) (va_A (wA h k T σ) sz)) 0 0 (va_A (wA h k T σ) sz) := by
  refine Met.ofW (cc := cX1_cellsOn) (maxL := 5) (ret := (some .int)) (by decide) rfl ?_
  intro p e s m args below meth c s₁ B hml hv
  obtain ⟨rfl, hsz, hP, hK, hD0, hZ⟩ := hv
  have hx := B.exec
  have hb := B.bytes
  have hr := B.returns
  have hts : ∀ w ∈ gG, w.before _ s = true := fun w h => atoms_spec (ws := wsX1_cellsOn) B.pre w (List.mem_cons_of_mem _ h)
  have hown : s.vm.findClass RX1 = some m.cls := findClass_of_methodNamed B.named
  have hlocks := B.notSynchronized
  subst hsz
  have hD := hD0.self (sz := s.heap.size)
  generalize hAe : va_A (wA h k T σ) s.heap.size = A at hD hZ ⊢
  have hA : ∀ q : Nat, s.heap.size ≤ q → A q := fun q h => by rw [← hAe]; exact Or.inr h
  have hS : va_S A s.heap s.heap [] := va_S.rf
  obtain ⟨t0, hZ0, hT0, hN0⟩ := id hZ
  have L15 : ∀ (K4 : Int32 → Int32 → Int32 → gS → Option (Int32 × gS)), (∀ (z1 : Int32) (z2 : Int32) (z3 : Int32) (σ : gS) (H : Heap) (locs : List Loc) (ls : Array Slot), K4 z1 z2 z3 σ = some y → va_P (dC, dI) vwCl (wA h k T σ) H → va_D A (wA h k T σ) → va_S A s.heap H locs → lv_has ls 5 [(0, .ref (h 1)), (1, .int z1), (2, .int z2), (3, .int z3)] → W p l e ({ frames := 3, cells := 0, slots := 0, locals := 66 }) s m ([.ref (h 1), .int x1] : List Value).toArray below meth c H locs 0 0 (MQ below (va_Qi (fun r u => (r, u) = y) (uAt (dC, dI) vwCl (tA k) (wA h k T) A) A) ([.ref (h 1), .int x1] : List Value).toArray s 0 0 A) (F0 m 4 ls [])) → ∀ (n : Nat), ∀ (z1 : Int32) (z2 : Int32) (z3 : Int32) (z4 : Int32) (σ : gS) (H : Heap) (locs : List Loc) (ls : Array Slot), fn_X1_cellsOn_L15 T K4 n z1 z2 z3 z4 σ = some y → va_P (dC, dI) vwCl (wA h k T σ) H → va_D A (wA h k T σ) → va_S A s.heap H locs → lv_has ls 5 [(0, .ref (h 1)), (1, .int z1), (2, .int z2), (3, .int z3), (4, .int z4)] → W p l e ({ frames := 3, cells := 0, slots := 0, locals := 66 }) s m ([.ref (h 1), .int x1] : List Value).toArray below meth c H locs 0 0 (MQ below (va_Qi (fun r u => (r, u) = y) (uAt (dC, dI) vwCl (tA k) (wA h k T) A) A) ([.ref (h 1), .int x1] : List Value).toArray s 0 0 A) (F0 m 15 ls []) := by
    intro K4 hK4
    intro n
    induction n with
    | zero => intro z1 z2 z3 z4 σ H locs ls hf; exact absurd hf (by rw [fn_X1_cellsOn_L15]; exact nofun)
    | succ n ih =>
      intro z1 z2 z3 z4 σ H locs ls hf hP hD hS hl
      rw [fn_X1_cellsOn_L15] at hf
      refine lv_iload hx hb dX1_cellsOn_15 (lv_at hl 4 rfl) ?_
      refine lv_iconst (v := 4) hx hb dX1_cellsOn_17 (by decide) ?_
      refine lv_icmp_ge (tgt := 41) hx hb dX1_cellsOn_18 (by decide) (fun hq => ?_) (fun hq => ?_)
      · have hf := gs_t hf hq
        refine lv_iinc (v := z3 + 1) (lv' := [(3, .int (z3 + 1)), (0, .ref (h 1)), (1, .int z1), (2, .int z2), (4, .int z4)]) hx hb dX1_cellsOn_41 hl (k := 3) rfl rfl (by decide) rfl (fun ls hl => ?_)
        refine lv_goto (tgt := 4) hx hb dX1_cellsOn_44 (by decide) ?_
        exact hK4 z1 z2 (z3 + 1) σ _ _ _ hf hP hD hS (lv_sub hl [1, 2, 3, 0] rfl)
      · have hf := gs_f hf hq
        refine lv_aload_n hx hb dX1_cellsOn_21 rfl (lv_at hl 0 rfl) ?_
        refine lv_iload_n hx hb dX1_cellsOn_22 rfl (lv_at hl 3 rfl) ?_
        refine lv_iload hx hb dX1_cellsOn_23 (lv_at hl 4 rfl) ?_
        refine lv_iload_n hx hb dX1_cellsOn_25 rfl (lv_at hl 1 rfl) ?_
        obtain ⟨r1, σ2, hc, hf⟩ := gs_ob_e hf
        have hF := u_free hD hS hA
        refine u_calli (va_runV (As := [.int z3, .int z4, .int z1]) (rest := []) ⟨hx, hb, hml, hown, hts⟩ (ct_X1_isOn l dC dI h k T σ H.size z3 z4 z1 _ hc) (cwV 3 hts (gd_V mg_221 mg_222 mg_9 mg_34 mg_223) rfl rfl rfl (by decide +kernel) ⟨Nat.le_of_ble_eq_true rfl, Nat.le_of_ble_eq_true rfl⟩) (u_preV zA_g hK hP hD hS hF hZ (va_recv hK hP (ci := 1) (q0 := 1) rfl rfl)) rfl rfl hl.1 rfl (lv_room (Nat.le_of_ble_eq_true rfl)) dX1_cellsOn_26 ⟨Nat.le_refl _, Nat.le_refl _⟩) hS hF (fun H locs hP hD hS => ?_)
        refine lv_if_eq (tgt := 35) hx hb dX1_cellsOn_29 (by decide) (fun hq => ?_) (fun hq => ?_)
        · have hf := gs_t hf hq
          refine lv_iinc (v := z4 + 1) (lv' := [(4, .int (z4 + 1)), (0, .ref (h 1)), (1, .int z1), (2, .int z2), (3, .int z3)]) hx hb dX1_cellsOn_35 hl (k := 4) rfl rfl (by decide) rfl (fun ls hl => ?_)
          refine lv_goto (tgt := 15) hx hb dX1_cellsOn_38 (by decide) ?_
          exact ih z1 z2 z3 (z4 + 1) σ2 _ _ _ hf hP hD hS (lv_sub hl [1, 2, 3, 4, 0] rfl)
        · have hf := gs_f hf hq
          refine lv_iinc (v := z2 + 1) (lv' := [(2, .int (z2 + 1)), (0, .ref (h 1)), (1, .int z1), (3, .int z3), (4, .int z4)]) hx hb dX1_cellsOn_32 hl (k := 2) rfl rfl (by decide) rfl (fun ls hl => ?_)
          refine lv_iinc (v := z4 + 1) (lv' := [(4, .int (z4 + 1)), (2, .int (z2 + 1)), (0, .ref (h 1)), (1, .int z1), (3, .int z3)]) hx hb dX1_cellsOn_35 hl (k := 4) rfl rfl (by decide) rfl (fun ls hl => ?_)
          refine lv_goto (tgt := 15) hx hb dX1_cellsOn_38 (by decide) ?_
          exact ih z1 (z2 + 1) z3 (z4 + 1) σ2 _ _ _ hf hP hD hS (lv_sub hl [2, 3, 1, 4, 0] rfl)
  have L4 : ∀ (n : Nat), ∀ (z1 : Int32) (z2 : Int32) (z3 : Int32) (σ : gS) (H : Heap) (locs : List Loc) (ls : Array Slot), fn_X1_cellsOn_L4 T n z1 z2 z3 σ = some y → va_P (dC, dI) vwCl (wA h k T σ) H → va_D A (wA h k T σ) → va_S A s.heap H locs → lv_has ls 5 [(0, .ref (h 1)), (1, .int z1), (2, .int z2), (3, .int z3)] → W p l e ({ frames := 3, cells := 0, slots := 0, locals := 66 }) s m ([.ref (h 1), .int x1] : List Value).toArray below meth c H locs 0 0 (MQ below (va_Qi (fun r u => (r, u) = y) (uAt (dC, dI) vwCl (tA k) (wA h k T) A) A) ([.ref (h 1), .int x1] : List Value).toArray s 0 0 A) (F0 m 4 ls []) := by
    intro n
    induction n with
    | zero => intro z1 z2 z3 σ H locs ls hf; exact absurd hf (by rw [fn_X1_cellsOn_L4]; exact nofun)
    | succ n ih =>
      intro z1 z2 z3 σ H locs ls hf hP hD hS hl
      rw [fn_X1_cellsOn_L4] at hf
      refine lv_iload_n hx hb dX1_cellsOn_4 rfl (lv_at hl 3 rfl) ?_
      refine lv_aload_n hx hb dX1_cellsOn_5 rfl (lv_at hl 0 rfl) ?_
      refine va_get (D := (dC, dI)) (ci := 1) (v := .int (σ 6 0)) (C := RX1) (T := TX1) (N := 7) hx hb hts inG_X1 hown hK hP 1 rfl rfl 0 (by decide) (hts _ mg_57) (fun _ h9 => h9) rfl dX1_cellsOn_6 ?_
      refine lv_icmp_ge (tgt := 47) hx hb dX1_cellsOn_9 (by decide) (fun hq => ?_) (fun hq => ?_)
      · have hf := gs_t hf hq
        refine lv_iload_n hx hb dX1_cellsOn_47 rfl (lv_at hl 2 rfl) ?_
        exact W.iret (v := z2) hx hb hr (fun t ht hW => u_ri (Option.some.inj hf) ht hW hP hK hD hS) hS.2.2 dX1_cellsOn_48
      · have hf := gs_f hf hq
        refine lv_iconst (v := 0) hx hb dX1_cellsOn_12 (by decide) ?_
        refine lv_istore (lv' := [(4, .int 0), (0, .ref (h 1)), (1, .int z1), (2, .int z2), (3, .int z3)]) hx hb dX1_cellsOn_13 hl (by decide) rfl (fun ls hl => ?_)
        exact L15 (fn_X1_cellsOn_L4 T n) ih gs_fu z1 z2 z3 0 σ _ _ _ hf hP hD hS (lv_sub hl [1, 2, 3, 4, 0] rfl)
  have hl := lv_entry ([.ref (h 1), .int x1]) (n := 5) (Nat.le_of_ble_eq_true rfl)
  rw [lg_entry_eq]
  generalize (lg_sl ([.ref (h 1), .int x1]) ++ List.replicate (5 - (lg_sl ([.ref (h 1), .int x1])).length) Slot.unset).toArray = ls at hl ⊢
  have hl : lv_has ls 5 [(0, .ref (h 1)), (1, .int x1)] := hl
  rw [fn_X1_cellsOn] at hf
  refine lv_iconst (v := 0) hx hb dX1_cellsOn_0 (by decide) ?_
  refine lv_istore_n (lv' := [(2, .int 0), (0, .ref (h 1)), (1, .int x1)]) hx hb dX1_cellsOn_1 rfl hl (by decide) rfl (fun ls hl => ?_)
  refine lv_iconst (v := 0) hx hb dX1_cellsOn_2 (by decide) ?_
  refine lv_istore_n (lv' := [(3, .int 0), (2, .int 0), (0, .ref (h 1)), (1, .int x1)]) hx hb dX1_cellsOn_3 rfl hl (by decide) rfl (fun ls hl => ?_)
  exact L4 gs_fu x1 0 0 σ _ _ _ hf hP hD hS (lv_sub hl [2, 3, 1, 0] rfl)
set_option maxHeartbeats 4000000 in
set_option maxRecDepth 100000 in
theorem ct_X1_movedCellsOn (l : Launch) (dC : Nat → ClassId) (dI : Nat → Nat → Nat) (h : Nat → Nat) (k : Nat → ClassId) (T : Nat) (σ : gS) (sz : Nat) (x1 : Int32) (y : Int32 × gS) (hf : fn_X1_movedCellsOn T x1 σ = some y) : Met l yX1_movedCellsOn wsX1_movedCellsOn ({ frames := 1, cells := 0, slots := 0, locals := 20 }) (va_Pc [.ref (h 1), .int x1] (uPre (dC, dI) vwCl (tA k) (wA h k T) zA σ sz)) (va_Qi (fun r u => (r, u) = y) (uAt (dC, dI) vwCl (tA k) (wA h k T) (va_A (wA h k T σ) sz)) (va_A (wA h k T σ) sz)) 0 0 (va_A (wA h k T σ) sz) := by
  refine Met.ofW (cc := cX1_movedCellsOn) (maxL := 4) (ret := (some .int)) (by decide) rfl ?_
  intro p e s m args below meth c s₁ B hml hv
  obtain ⟨rfl, hsz, hP, hK, hD0, hZ⟩ := hv
  have hx := B.exec
  have hb := B.bytes
  have hr := B.returns
  have hts : ∀ w ∈ gG, w.before _ s = true := fun w h => atoms_spec (ws := wsX1_movedCellsOn) B.pre w (List.mem_cons_of_mem _ h)
  have hown : s.vm.findClass RX1 = some m.cls := findClass_of_methodNamed B.named
  have hlocks := B.notSynchronized
  subst hsz
  have hD := hD0.self (sz := s.heap.size)
  generalize hAe : va_A (wA h k T σ) s.heap.size = A at hD hZ ⊢
  have hA : ∀ q : Nat, s.heap.size ≤ q → A q := fun q h => by rw [← hAe]; exact Or.inr h
  have hS : va_S A s.heap s.heap [] := va_S.rf
  obtain ⟨t0, hZ0, hT0, hN0⟩ := id hZ
  have L4 : ∀ (n : Nat), ∀ (z1 : Int32) (z2 : Int32) (z3 : Int32) (σ : gS) (H : Heap) (locs : List Loc) (ls : Array Slot), fn_X1_movedCellsOn_L4 T n z1 z2 z3 σ = some y → va_P (dC, dI) vwCl (wA h k T σ) H → va_D A (wA h k T σ) → va_S A s.heap H locs → lv_has ls 4 [(0, .ref (h 1)), (1, .int z1), (2, .int z2), (3, .int z3)] → W p l e ({ frames := 1, cells := 0, slots := 0, locals := 20 }) s m ([.ref (h 1), .int x1] : List Value).toArray below meth c H locs 0 0 (MQ below (va_Qi (fun r u => (r, u) = y) (uAt (dC, dI) vwCl (tA k) (wA h k T) A) A) ([.ref (h 1), .int x1] : List Value).toArray s 0 0 A) (F0 m 4 ls []) := by
    intro n
    induction n with
    | zero => intro z1 z2 z3 σ H locs ls hf; exact absurd hf (by rw [fn_X1_movedCellsOn_L4]; exact nofun)
    | succ n ih =>
      intro z1 z2 z3 σ H locs ls hf hP hD hS hl
      rw [fn_X1_movedCellsOn_L4] at hf
      refine lv_iload_n hx hb dX1_movedCellsOn_4 rfl (lv_at hl 3 rfl) ?_
      refine lv_aload_n hx hb dX1_movedCellsOn_5 rfl (lv_at hl 0 rfl) ?_
      refine va_get (D := (dC, dI)) (ci := 1) (v := .int (σ 6 0)) (C := RX1) (T := TX1) (N := 7) hx hb hts inG_X1 hown hK hP 1 rfl rfl 0 (by decide) (hts _ mg_57) (fun _ h9 => h9) rfl dX1_movedCellsOn_6 ?_
      refine lv_icmp_ge (tgt := 39) hx hb dX1_movedCellsOn_9 (by decide) (fun hq => ?_) (fun hq => ?_)
      · have hf := gs_t hf hq
        refine lv_iload_n hx hb dX1_movedCellsOn_39 rfl (lv_at hl 2 rfl) ?_
        exact W.iret (v := z2) hx hb hr (fun t ht hW => u_ri (Option.some.inj hf) ht hW hP hK hD hS) hS.2.2 dX1_movedCellsOn_40
      · have hf := gs_f hf hq
        refine lv_aload_n hx hb dX1_movedCellsOn_12 rfl (lv_at hl 0 rfl) ?_
        refine va_get (D := (dC, dI)) (ci := 1) (v := .ref (h 6)) (C := RX1) (T := TX1) (N := 7) hx hb hts inG_X1 hown hK hP 1 rfl rfl 5 (by decide) (hts _ mg_62) (fun _ h9 => h9) rfl dX1_movedCellsOn_13 ?_
        refine lv_iload_n hx hb dX1_movedCellsOn_16 rfl (lv_at hl 3 rfl) ?_
        obtain ⟨hin, hf⟩ := gs_gd_e hf
        refine va_iald hx hb hK hP 6 4 rfl rfl hin dX1_movedCellsOn_17 ?_
        refine lv_iconst (v := 4) hx hb dX1_movedCellsOn_18 (by decide) ?_
        refine lv_icmp_eq (tgt := 33) hx hb dX1_movedCellsOn_19 (by decide) (fun hq => ?_) (fun hq => ?_)
        · have hf := gs_t hf hq
          refine lv_iinc (v := z3 + 1) (lv' := [(3, .int (z3 + 1)), (0, .ref (h 1)), (1, .int z1), (2, .int z2)]) hx hb dX1_movedCellsOn_33 hl (k := 3) rfl rfl (by decide) rfl (fun ls hl => ?_)
          refine lv_goto (tgt := 4) hx hb dX1_movedCellsOn_36 (by decide) ?_
          exact ih z1 z2 (z3 + 1) σ _ _ _ hf hP hD hS (lv_sub hl [1, 2, 3, 0] rfl)
        · have hf := gs_f hf hq
          refine lv_iload_n hx hb dX1_movedCellsOn_22 rfl (lv_at hl 3 rfl) ?_
          obtain ⟨r1, σ2, hc, hf⟩ := gs_ob_e hf
          have hF := u_free hD hS hA
          refine u_calli (va_runS (As := [.int z3]) (rest := []) ⟨hx, hb, hml, hown, hts⟩ (ct_X1_spare l dC dI h k T σ H.size z3 _ hc) (va_cwS 1 hts (gd_S mg_224 mg_225 mg_34 mg_226) rfl rfl rfl (by decide +kernel) ⟨Nat.le_of_ble_eq_true rfl, Nat.le_of_ble_eq_true rfl⟩) (u_preS zA_g hK hP hD hS hF hZ) rfl rfl hl.1 rfl (lv_room (Nat.le_of_ble_eq_true rfl)) dX1_movedCellsOn_23 ⟨Nat.le_refl _, Nat.le_refl _⟩) hS hF (fun H locs hP hD hS => ?_)
          refine lv_iload_n hx hb dX1_movedCellsOn_26 rfl (lv_at hl 1 rfl) ?_
          refine lv_icmp_ne (tgt := 33) hx hb dX1_movedCellsOn_27 (by decide) (fun hq => ?_) (fun hq => ?_)
          · have hf := gs_f hf hq
            refine lv_iinc (v := z3 + 1) (lv' := [(3, .int (z3 + 1)), (0, .ref (h 1)), (1, .int z1), (2, .int z2)]) hx hb dX1_movedCellsOn_33 hl (k := 3) rfl rfl (by decide) rfl (fun ls hl => ?_)
            refine lv_goto (tgt := 4) hx hb dX1_movedCellsOn_36 (by decide) ?_
            exact ih z1 z2 (z3 + 1) σ2 _ _ _ hf hP hD hS (lv_sub hl [1, 2, 3, 0] rfl)
          · have hf := gs_t hf hq
            refine lv_iinc (v := z2 + 1) (lv' := [(2, .int (z2 + 1)), (0, .ref (h 1)), (1, .int z1), (3, .int z3)]) hx hb dX1_movedCellsOn_30 hl (k := 2) rfl rfl (by decide) rfl (fun ls hl => ?_)
            refine lv_iinc (v := z3 + 1) (lv' := [(3, .int (z3 + 1)), (2, .int (z2 + 1)), (0, .ref (h 1)), (1, .int z1)]) hx hb dX1_movedCellsOn_33 hl (k := 3) rfl rfl (by decide) rfl (fun ls hl => ?_)
            refine lv_goto (tgt := 4) hx hb dX1_movedCellsOn_36 (by decide) ?_
            exact ih z1 (z2 + 1) (z3 + 1) σ2 _ _ _ hf hP hD hS (lv_sub hl [2, 3, 1, 0] rfl)
  have hl := lv_entry ([.ref (h 1), .int x1]) (n := 4) (Nat.le_of_ble_eq_true rfl)
  rw [lg_entry_eq]
  generalize (lg_sl ([.ref (h 1), .int x1]) ++ List.replicate (4 - (lg_sl ([.ref (h 1), .int x1])).length) Slot.unset).toArray = ls at hl ⊢
  have hl : lv_has ls 4 [(0, .ref (h 1)), (1, .int x1)] := hl
  rw [fn_X1_movedCellsOn] at hf
  refine lv_iconst (v := 0) hx hb dX1_movedCellsOn_0 (by decide) ?_
  refine lv_istore_n (lv' := [(2, .int 0), (0, .ref (h 1)), (1, .int x1)]) hx hb dX1_movedCellsOn_1 rfl hl (by decide) rfl (fun ls hl => ?_)
  refine lv_iconst (v := 0) hx hb dX1_movedCellsOn_2 (by decide) ?_
  refine lv_istore_n (lv' := [(3, .int 0), (2, .int 0), (0, .ref (h 1)), (1, .int x1)]) hx hb dX1_movedCellsOn_3 rfl hl (by decide) rfl (fun ls hl => ?_)
  exact L4 gs_fu x1 0 0 σ _ _ _ hf hP hD hS (lv_sub hl [2, 3, 1, 0] rfl)
