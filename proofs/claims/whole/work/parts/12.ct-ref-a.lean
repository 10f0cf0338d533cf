set_option maxHeartbeats 4000000 in
set_option maxRecDepth 100000 in
theorem ct_X3_in (l : Launch) (dC : Nat → ClassId) (dI : Nat → Nat → Nat) (h : Nat → Nat) (k : Nat → ClassId) (T : Nat) (σ : gS) (sz : Nat) (x0 : Int32) (x1 : Int32) (y : Int32 × gS) (hf : fn_X3_in T x0 x1 σ = some y) : Met l yX3_in wsX3_in ({ frames := 0, cells := 0, slots := 0, locals := 0 }) (va_Pc [.int x0, .int x1] (uPre (dC, dI) vwCl (tB k) (wB h k T) zB σ sz)) (va_Qi (fun r u => (r, u) = y) (uAt (dC, dI) vwCl (tB k) (wB h k T) (va_A (wB h k T σ) sz)) (va_A (wB h k T σ) sz)) 0 0 (va_A (wB h k T σ) sz) := by
  refine Met.ofW (cc := cX3_in) (maxL := 2) (ret := (some .boolean)) (by decide) rfl ?_
  intro p e s m args below meth c s₁ B hml hv
  obtain ⟨rfl, hsz, hP, hK, hD0, hZ⟩ := hv
  have hx := B.exec
  have hb := B.bytes
  have hr := B.returns
  have hts : ∀ w ∈ gG, w.before _ s = true := fun w h => atoms_spec (ws := wsX3_in) B.pre w (List.mem_cons_of_mem _ h)
  have hown : s.vm.findClass RX3 = some m.cls := findClass_of_methodNamed B.named
  have hlocks := B.notSynchronized
  subst hsz
  have hD := hD0.self (sz := s.heap.size)
  generalize hAe : va_A (wB h k T σ) s.heap.size = A at hD hZ ⊢
  have hA : ∀ q : Nat, s.heap.size ≤ q → A q := fun q h => by rw [← hAe]; exact Or.inr h
  have hS : va_S A s.heap s.heap [] := va_S.rf
  have hl := lv_entry ([.int x0, .int x1]) (n := 2) (Nat.le_of_ble_eq_true rfl)
  rw [lg_entry_eq]
  generalize (lg_sl ([.int x0, .int x1]) ++ List.replicate (2 - (lg_sl ([.int x0, .int x1])).length) Slot.unset).toArray = ls at hl ⊢
  have hl : lv_has ls 2 [(0, .int x0), (1, .int x1)] := hl
  rw [fn_X3_in] at hf
  refine lv_iload_n hx hb dX3_in_0 rfl (lv_at hl 0 rfl) ?_
  refine lv_if_lt (tgt := 13) hx hb dX3_in_1 (by decide) (fun hq => ?_) (fun hq => ?_)
  · have hf := gs_t hf hq
    refine lv_iconst (v := 0) hx hb dX3_in_13 (by decide) ?_
    exact W.zret (v := 0) (ty := .boolean) hx hb hr rfl (fun t ht hW => u_ri (Option.some.inj hf) ht hW hP hK hD hS) hS.2.2 dX3_in_14
  · have hf := gs_f hf hq
    refine lv_iload_n hx hb dX3_in_4 rfl (lv_at hl 0 rfl) ?_
    refine lv_iload_n hx hb dX3_in_5 rfl (lv_at hl 1 rfl) ?_
    refine lv_icmp_ge (tgt := 13) hx hb dX3_in_6 (by decide) (fun hq => ?_) (fun hq => ?_)
    · have hf := gs_t hf hq
      refine lv_iconst (v := 0) hx hb dX3_in_13 (by decide) ?_
      exact W.zret (v := 0) (ty := .boolean) hx hb hr rfl (fun t ht hW => u_ri (Option.some.inj hf) ht hW hP hK hD hS) hS.2.2 dX3_in_14
    · have hf := gs_f hf hq
      refine lv_iconst (v := 1) hx hb dX3_in_9 (by decide) ?_
      refine lv_goto (tgt := 14) hx hb dX3_in_10 (by decide) ?_
      exact W.zret (v := 1) (ty := .boolean) hx hb hr rfl (fun t ht hW => u_ri (Option.some.inj hf) ht hW hP hK hD hS) hS.2.2 dX3_in_14
set_option maxHeartbeats 4000000 in
set_option maxRecDepth 100000 in
theorem ct_X3_run (l : Launch) (dC : Nat → ClassId) (dI : Nat → Nat → Nat) (h : Nat → Nat) (k : Nat → ClassId) (T : Nat) (σ : gS) (sz : Nat) (x1 : Int32) (y : Int32 × gS) (hf : fn_X3_run T x1 σ = some y) : Met l yX3_run wsX3_run ({ frames := 0, cells := 0, slots := 0, locals := 0 }) (va_Pc [.ref (h 0), .int x1] (uPre (dC, dI) vwCl (tB k) (wB h k T) zB σ sz)) (va_Qi (fun r u => (r, u) = y) (uAt (dC, dI) vwCl (tB k) (wB h k T) (va_A (wB h k T σ) sz)) (va_A (wB h k T σ) sz)) 0 0 (va_A (wB h k T σ) sz) := by
  refine Met.ofW (cc := cX3_run) (maxL := 3) (ret := (some .int)) (by decide) rfl ?_
  intro p e s m args below meth c s₁ B hml hv
  obtain ⟨rfl, hsz, hP, hK, hD0, hZ⟩ := hv
  have hx := B.exec
  have hb := B.bytes
  have hr := B.returns
  have hts : ∀ w ∈ gG, w.before _ s = true := fun w h => atoms_spec (ws := wsX3_run) B.pre w (List.mem_cons_of_mem _ h)
  have hown : s.vm.findClass RX3 = some m.cls := findClass_of_methodNamed B.named
  have hlocks := B.notSynchronized
  subst hsz
  have hD := hD0.self (sz := s.heap.size)
  generalize hAe : va_A (wB h k T σ) s.heap.size = A at hD hZ ⊢
  have hA : ∀ q : Nat, s.heap.size ≤ q → A q := fun q h => by rw [← hAe]; exact Or.inr h
  have hS : va_S A s.heap s.heap [] := va_S.rf
  have L28 : ∀ (n : Nat), ∀ (z1 : Int32) (z2 : Int32) (σ : gS) (H : Heap) (locs : List Loc) (ls : Array Slot), fn_X3_run_L28 T n z1 z2 σ = some y → va_P (dC, dI) vwCl (wB h k T σ) H → va_D A (wB h k T σ) → va_S A s.heap H locs → lv_has ls 3 [(0, .ref (h 0)), (1, .int z1), (2, .int z2)] → W p l e ({ frames := 0, cells := 0, slots := 0, locals := 0 }) s m ([.ref (h 0), .int x1] : List Value).toArray below meth c H locs 0 0 (MQ below (va_Qi (fun r u => (r, u) = y) (uAt (dC, dI) vwCl (tB k) (wB h k T) A) A) ([.ref (h 0), .int x1] : List Value).toArray s 0 0 A) (F0 m 28 ls []) := by
    intro n
    induction n with
    | zero => intro z1 z2 σ H locs ls hf; exact absurd hf (by rw [fn_X3_run_L28]; exact nofun)
    | succ n ih =>
      intro z1 z2 σ H locs ls hf hP hD hS hl
      rw [fn_X3_run_L28] at hf
      refine lv_iload_n hx hb dX3_run_28 rfl (lv_at hl 1 rfl) ?_
      refine lv_iload_n hx hb dX3_run_29 rfl (lv_at hl 2 rfl) ?_
      refine lv_iadd hx hb dX3_run_30 ?_
      refine lv_iconst (v := 3) hx hb dX3_run_31 (by decide) ?_
      refine lv_aload_n hx hb dX3_run_32 rfl (lv_at hl 0 rfl) ?_
      refine va_get (D := (dC, dI)) (ci := 3) (v := .int (σ 0 0)) (C := RX3) (T := TX3) (N := 11) hx hb hts inG_X3 hown hK hP 0 rfl rfl 0 (by decide) (hts _ mg_365) (fun _ h9 => h9) rfl dX3_run_33 ?_
      refine lv_imul hx hb dX3_run_36 ?_
      refine lv_icmp_ge (tgt := 57) hx hb dX3_run_37 (by decide) (fun hq => ?_) (fun hq => ?_)
      · have hf := gs_t hf hq
        refine lv_iload_n hx hb dX3_run_57 rfl (lv_at hl 2 rfl) ?_
        exact W.iret (v := z2) hx hb hr (fun t ht hW => u_ri (Option.some.inj hf) ht hW hP hK hD hS) hS.2.2 dX3_run_58
      · have hf := gs_f hf hq
        refine lv_aload_n hx hb dX3_run_40 rfl (lv_at hl 0 rfl) ?_
        refine va_get (D := (dC, dI)) (ci := 3) (v := .ref (h 6)) (C := RX3) (T := TX3) (N := 11) hx hb hts inG_X3 hown hK hP 0 rfl rfl 6 (by decide) (hts _ mg_371) (fun _ h9 => h9) rfl dX3_run_41 ?_
        refine lv_iload_n hx hb dX3_run_44 rfl (lv_at hl 1 rfl) ?_
        refine lv_iload_n hx hb dX3_run_45 rfl (lv_at hl 2 rfl) ?_
        refine lv_iadd hx hb dX3_run_46 ?_
        obtain ⟨hin, hf⟩ := gs_gd_e hf
        refine va_iald hx hb hK hP 6 5 rfl rfl hin dX3_run_47 ?_
        refine lv_if_ne (tgt := 57) hx hb dX3_run_48 (by decide) (fun hq => ?_) (fun hq => ?_)
        · have hf := gs_f hf hq
          refine lv_iload_n hx hb dX3_run_57 rfl (lv_at hl 2 rfl) ?_
          exact W.iret (v := z2) hx hb hr (fun t ht hW => u_ri (Option.some.inj hf) ht hW hP hK hD hS) hS.2.2 dX3_run_58
        · have hf := gs_t hf hq
          refine lv_iinc (v := z2 + 1) (lv' := [(2, .int (z2 + 1)), (0, .ref (h 0)), (1, .int z1)]) hx hb dX3_run_51 hl (k := 2) rfl rfl (by decide) rfl (fun ls hl => ?_)
          refine lv_goto (tgt := 28) hx hb dX3_run_54 (by decide) ?_
          exact ih z1 (z2 + 1) σ _ _ _ hf hP hD hS (lv_sub hl [1, 2, 0] rfl)
  have hl := lv_entry ([.ref (h 0), .int x1]) (n := 3) (Nat.le_of_ble_eq_true rfl)
  rw [lg_entry_eq]
  generalize (lg_sl ([.ref (h 0), .int x1]) ++ List.replicate (3 - (lg_sl ([.ref (h 0), .int x1])).length) Slot.unset).toArray = ls at hl ⊢
  have hl : lv_has ls 3 [(0, .ref (h 0)), (1, .int x1)] := hl
  rw [fn_X3_run] at hf
  refine lv_aload_n hx hb dX3_run_0 rfl (lv_at hl 0 rfl) ?_
  refine va_get (D := (dC, dI)) (ci := 3) (v := .ref (h 6)) (C := RX3) (T := TX3) (N := 11) hx hb hts inG_X3 hown hK hP 0 rfl rfl 6 (by decide) (hts _ mg_371) (fun _ h9 => h9) rfl dX3_run_1 ?_
  refine lv_iload_n hx hb dX3_run_4 rfl (lv_at hl 1 rfl) ?_
  obtain ⟨hin, hf⟩ := gs_gd_e hf
  refine va_iald hx hb hK hP 6 5 rfl rfl hin dX3_run_5 ?_
  refine lv_if_ne (tgt := 24) hx hb dX3_run_6 (by decide) (fun hq => ?_) (fun hq => ?_)
  · have hf := gs_f hf hq
    refine lv_iconst (v := 0) hx hb dX3_run_24 (by decide) ?_
    exact W.iret (v := 0) hx hb hr (fun t ht hW => u_ri (Option.some.inj hf) ht hW hP hK hD hS) hS.2.2 dX3_run_25
  · have hf := gs_t hf hq
    refine lv_iload_n hx hb dX3_run_9 rfl (lv_at hl 1 rfl) ?_
    refine lv_if_le (tgt := 26) hx hb dX3_run_10 (by decide) (fun hq => ?_) (fun hq => ?_)
    · have hf := gs_t hf hq
      refine lv_iconst (v := 0) hx hb dX3_run_26 (by decide) ?_
      refine lv_istore_n (lv' := [(2, .int 0), (0, .ref (h 0)), (1, .int x1)]) hx hb dX3_run_27 rfl hl (by decide) rfl (fun ls hl => ?_)
      exact L28 gs_fu x1 0 σ _ _ _ hf hP hD hS (lv_sub hl [1, 2, 0] rfl)
    · have hf := gs_f hf hq
      refine lv_aload_n hx hb dX3_run_13 rfl (lv_at hl 0 rfl) ?_
      refine va_get (D := (dC, dI)) (ci := 3) (v := .ref (h 6)) (C := RX3) (T := TX3) (N := 11) hx hb hts inG_X3 hown hK hP 0 rfl rfl 6 (by decide) (hts _ mg_371) (fun _ h9 => h9) rfl dX3_run_14 ?_
      refine lv_iload_n hx hb dX3_run_17 rfl (lv_at hl 1 rfl) ?_
      refine lv_iconst (v := 1) hx hb dX3_run_18 (by decide) ?_
      refine lv_isub hx hb dX3_run_19 ?_
      obtain ⟨hin, hf⟩ := gs_gd_e hf
      refine va_iald hx hb hK hP 6 5 rfl rfl hin dX3_run_20 ?_
      refine lv_if_ne (tgt := 26) hx hb dX3_run_21 (by decide) (fun hq => ?_) (fun hq => ?_)
      · have hf := gs_f hf hq
        refine lv_iconst (v := 0) hx hb dX3_run_26 (by decide) ?_
        refine lv_istore_n (lv' := [(2, .int 0), (0, .ref (h 0)), (1, .int x1)]) hx hb dX3_run_27 rfl hl (by decide) rfl (fun ls hl => ?_)
        exact L28 gs_fu x1 0 σ _ _ _ hf hP hD hS (lv_sub hl [1, 2, 0] rfl)
      · have hf := gs_t hf hq
        refine lv_iconst (v := 0) hx hb dX3_run_24 (by decide) ?_
        exact W.iret (v := 0) hx hb hr (fun t ht hW => u_ri (Option.some.inj hf) ht hW hP hK hD hS) hS.2.2 dX3_run_25
set_option maxHeartbeats 4000000 in
set_option maxRecDepth 100000 in
theorem ct_X3_give (l : Launch) (dC : Nat → ClassId) (dI : Nat → Nat → Nat) (h : Nat → Nat) (k : Nat → ClassId) (T : Nat) (σ : gS) (sz : Nat) (x1 : Int32) (x2 : Int32) (x3 : Int32) (y : Int32 × gS) (hf : fn_X3_give T x1 x2 x3 σ = some y) : Met l yX3_give wsX3_give ({ frames := 0, cells := 0, slots := 0, locals := 0 }) (va_Pc [.ref (h 0), .int x1, .int x2, .int x3] (uPre (dC, dI) vwCl (tB k) (wB h k T) zB σ sz)) (va_Qv (fun u => u = y.2) (uAt (dC, dI) vwCl (tB k) (wB h k T) (va_A (wB h k T σ) sz)) (va_A (wB h k T σ) sz)) 0 0 (va_A (wB h k T σ) sz) := by
  refine Met.ofW (cc := cX3_give) (maxL := 5) (ret := none) (by decide) rfl ?_
  intro p e s m args below meth c s₁ B hml hv
  obtain ⟨rfl, hsz, hP, hK, hD0, hZ⟩ := hv
  have hx := B.exec
  have hb := B.bytes
  have hr := B.returns
  have hts : ∀ w ∈ gG, w.before _ s = true := fun w h => atoms_spec (ws := wsX3_give) B.pre w (List.mem_cons_of_mem _ h)
  have hown : s.vm.findClass RX3 = some m.cls := findClass_of_methodNamed B.named
  have hlocks := B.notSynchronized
  subst hsz
  have hD := hD0.self (sz := s.heap.size)
  generalize hAe : va_A (wB h k T σ) s.heap.size = A at hD hZ ⊢
  have hA : ∀ q : Nat, s.heap.size ≤ q → A q := fun q h => by rw [← hAe]; exact Or.inr h
  have hS : va_S A s.heap s.heap [] := va_S.rf
  have L3 : ∀ (n : Nat), ∀ (z1 : Int32) (z2 : Int32) (z3 : Int32) (z4 : Int32) (σ : gS) (H : Heap) (locs : List Loc) (ls : Array Slot), fn_X3_give_L3 T n z1 z2 z3 z4 σ = some y → va_P (dC, dI) vwCl (wB h k T σ) H → va_D A (wB h k T σ) → va_S A s.heap H locs → lv_has ls 5 [(0, .ref (h 0)), (1, .int z1), (2, .int z2), (3, .int z3), (4, .int z4)] → W p l e ({ frames := 0, cells := 0, slots := 0, locals := 0 }) s m ([.ref (h 0), .int x1, .int x2, .int x3] : List Value).toArray below meth c H locs 0 0 (MQ below (va_Qv (fun u => u = y.2) (uAt (dC, dI) vwCl (tB k) (wB h k T) A) A) ([.ref (h 0), .int x1, .int x2, .int x3] : List Value).toArray s 0 0 A) (F0 m 3 ls []) := by
    intro n
    induction n with
    | zero => intro z1 z2 z3 z4 σ H locs ls hf; exact absurd hf (by rw [fn_X3_give_L3]; exact nofun)
    | succ n ih =>
      intro z1 z2 z3 z4 σ H locs ls hf hP hD hS hl
      rw [fn_X3_give_L3] at hf
      refine lv_iload hx hb dX3_give_3 (lv_at hl 4 rfl) ?_
      refine lv_iload_n hx hb dX3_give_5 rfl (lv_at hl 2 rfl) ?_
      refine lv_iload_n hx hb dX3_give_6 rfl (lv_at hl 3 rfl) ?_
      refine lv_iadd hx hb dX3_give_7 ?_
      refine lv_icmp_ge (tgt := 27) hx hb dX3_give_8 (by decide) (fun hq => ?_) (fun hq => ?_)
      · have hf := gs_t hf hq
        refine lv_aload_n hx hb dX3_give_27 rfl (lv_at hl 0 rfl) ?_
        refine va_get (D := (dC, dI)) (ci := 3) (v := .ref (h 7)) (C := RX3) (T := TX3) (N := 11) hx hb hts inG_X3 hown hK hP 0 rfl rfl 7 (by decide) (hts _ mg_372) (fun _ h9 => h9) rfl dX3_give_28 ?_
        refine lv_iconst (v := 3) hx hb dX3_give_31 (by decide) ?_
        refine lv_iload_n hx hb dX3_give_32 rfl (lv_at hl 1 rfl) ?_
        refine lv_imul hx hb dX3_give_33 ?_
        refine lv_aload_n hx hb dX3_give_34 rfl (lv_at hl 0 rfl) ?_
        refine va_get (D := (dC, dI)) (ci := 3) (v := .ref (h 9)) (C := RX3) (T := TX3) (N := 11) hx hb hts inG_X3 hown hK hP 0 rfl rfl 9 (by decide) (hts _ mg_374) (fun _ h9 => h9) rfl dX3_give_35 ?_
        refine lv_iload_n hx hb dX3_give_38 rfl (lv_at hl 1 rfl) ?_
        obtain ⟨hin, hf⟩ := gs_gd_e hf
        refine va_iald hx hb hK hP 9 8 rfl rfl hin dX3_give_39 ?_
        refine lv_iadd hx hb dX3_give_40 ?_
        refine lv_iload_n hx hb dX3_give_41 rfl (lv_at hl 2 rfl) ?_
        obtain ⟨hin, hf⟩ := gs_gd_e hf
        refine va_iast hx hb hK hP hD hS 7 6 rfl rfl hin dX3_give_42 (fun H locs hP hD hS => ?_)
        obtain ⟨σ1, es, hf⟩ := gs_lt_e hf
        have hP : va_P (dC, dI) vwCl (wB h k T σ1) H := by rw [es]; exact hP
        have hD : va_D A (wB h k T σ1) := by rw [es]; exact hD
        clear es
        refine lv_aload_n hx hb dX3_give_43 rfl (lv_at hl 0 rfl) ?_
        refine va_get (D := (dC, dI)) (ci := 3) (v := .ref (h 8)) (C := RX3) (T := TX3) (N := 11) hx hb hts inG_X3 hown hK hP 0 rfl rfl 8 (by decide) (hts _ mg_373) (fun _ h9 => h9) rfl dX3_give_44 ?_
        refine lv_iconst (v := 3) hx hb dX3_give_47 (by decide) ?_
        refine lv_iload_n hx hb dX3_give_48 rfl (lv_at hl 1 rfl) ?_
        refine lv_imul hx hb dX3_give_49 ?_
        refine lv_aload_n hx hb dX3_give_50 rfl (lv_at hl 0 rfl) ?_
        refine va_get (D := (dC, dI)) (ci := 3) (v := .ref (h 9)) (C := RX3) (T := TX3) (N := 11) hx hb hts inG_X3 hown hK hP 0 rfl rfl 9 (by decide) (hts _ mg_374) (fun _ h9 => h9) rfl dX3_give_51 ?_
        refine lv_iload_n hx hb dX3_give_54 rfl (lv_at hl 1 rfl) ?_
        obtain ⟨hin, hf⟩ := gs_gd_e hf
        refine va_iald hx hb hK hP 9 8 rfl rfl hin dX3_give_55 ?_
        refine lv_iadd hx hb dX3_give_56 ?_
        refine lv_iload_n hx hb dX3_give_57 rfl (lv_at hl 3 rfl) ?_
        obtain ⟨hin, hf⟩ := gs_gd_e hf
        refine va_iast hx hb hK hP hD hS 8 7 rfl rfl hin dX3_give_58 (fun H locs hP hD hS => ?_)
        obtain ⟨σ2, es, hf⟩ := gs_lt_e hf
        have hP : va_P (dC, dI) vwCl (wB h k T σ2) H := by rw [es]; exact hP
        have hD : va_D A (wB h k T σ2) := by rw [es]; exact hD
        clear es
        refine lv_aload_n hx hb dX3_give_59 rfl (lv_at hl 0 rfl) ?_
        refine va_get (D := (dC, dI)) (ci := 3) (v := .ref (h 9)) (C := RX3) (T := TX3) (N := 11) hx hb hts inG_X3 hown hK hP 0 rfl rfl 9 (by decide) (hts _ mg_374) (fun _ h9 => h9) rfl dX3_give_60 ?_
        refine lv_iload_n hx hb dX3_give_63 rfl (lv_at hl 1 rfl) ?_
        refine lv_dup2_11 hx hb dX3_give_64 rfl rfl ?_
        obtain ⟨hin, hf⟩ := gs_gd_e hf
        refine va_iald hx hb hK hP 9 8 rfl rfl hin dX3_give_65 ?_
        refine lv_iconst (v := 1) hx hb dX3_give_66 (by decide) ?_
        refine lv_iadd hx hb dX3_give_67 ?_
        obtain ⟨hin, hf⟩ := gs_gd_e hf
        refine va_iast hx hb hK hP hD hS 9 8 rfl rfl hin dX3_give_68 (fun H locs hP hD hS => ?_)
        obtain ⟨σ3, es, hf⟩ := gs_lt_e hf
        have hP : va_P (dC, dI) vwCl (wB h k T σ3) H := by rw [es]; exact hP
        have hD : va_D A (wB h k T σ3) := by rw [es]; exact hD
        clear es
        exact W.vret hx hb hr (fun t ht hW => u_rv (Option.some.inj hf) ht hW hP hK hD hS) hS.2.2 dX3_give_69
      · have hf := gs_f hf hq
        refine lv_aload_n hx hb dX3_give_11 rfl (lv_at hl 0 rfl) ?_
        refine va_get (D := (dC, dI)) (ci := 3) (v := .ref (h 6)) (C := RX3) (T := TX3) (N := 11) hx hb hts inG_X3 hown hK hP 0 rfl rfl 6 (by decide) (hts _ mg_371) (fun _ h9 => h9) rfl dX3_give_12 ?_
        refine lv_iload hx hb dX3_give_15 (lv_at hl 4 rfl) ?_
        refine lv_iconst (v := 1) hx hb dX3_give_17 (by decide) ?_
        refine lv_iload_n hx hb dX3_give_18 rfl (lv_at hl 1 rfl) ?_
        refine lv_iadd hx hb dX3_give_19 ?_
        obtain ⟨hin, hf⟩ := gs_gd_e hf
        refine va_iast hx hb hK hP hD hS 6 5 rfl rfl hin dX3_give_20 (fun H locs hP hD hS => ?_)
        obtain ⟨σ4, es, hf⟩ := gs_lt_e hf
        have hP : va_P (dC, dI) vwCl (wB h k T σ4) H := by rw [es]; exact hP
        have hD : va_D A (wB h k T σ4) := by rw [es]; exact hD
        clear es
        refine lv_iinc (v := z4 + 1) (lv' := [(4, .int (z4 + 1)), (0, .ref (h 0)), (1, .int z1), (2, .int z2), (3, .int z3)]) hx hb dX3_give_21 hl (k := 4) rfl rfl (by decide) rfl (fun ls hl => ?_)
        refine lv_goto (tgt := 3) hx hb dX3_give_24 (by decide) ?_
        exact ih z1 z2 z3 (z4 + 1) σ4 _ _ _ hf hP hD hS (lv_sub hl [1, 2, 3, 4, 0] rfl)
  have hl := lv_entry ([.ref (h 0), .int x1, .int x2, .int x3]) (n := 5) (Nat.le_of_ble_eq_true rfl)
  rw [lg_entry_eq]
  generalize (lg_sl ([.ref (h 0), .int x1, .int x2, .int x3]) ++ List.replicate (5 - (lg_sl ([.ref (h 0), .int x1, .int x2, .int x3])).length) Slot.unset).toArray = ls at hl ⊢
  have hl : lv_has ls 5 [(0, .ref (h 0)), (1, .int x1), (2, .int x2), (3, .int x3)] := hl
  rw [fn_X3_give] at hf
  refine lv_iload_n hx hb dX3_give_0 rfl (lv_at hl 2 rfl) ?_
  refine lv_istore (lv' := [(4, .int x2), (0, .ref (h 0)), (1, .int x1), (2, .int x2), (3, .int x3)]) hx hb dX3_give_1 hl (by decide) rfl (fun ls hl => ?_)
  exact L3 gs_fu x1 x2 x3 x2 σ _ _ _ hf hP hD hS (lv_sub hl [1, 2, 3, 4, 0] rfl)
set_option maxHeartbeats 4000000 in
set_option maxRecDepth 100000 in
theorem ct_X3_longest (l : Launch) (dC : Nat → ClassId) (dI : Nat → Nat → Nat) (h : Nat → Nat) (k : Nat → ClassId) (T : Nat) (σ : gS) (sz : Nat) (y : Int32 × gS) (hf : fn_X3_longest T σ = some y) : Met l yX3_longest wsX3_longest ({ frames := 1, cells := 0, slots := 0, locals := 22 }) (va_Pc [.ref (h 0)] (uPre (dC, dI) vwCl (tB k) (wB h k T) zB σ sz)) (va_Qi (fun r u => (r, u) = y) (uAt (dC, dI) vwCl (tB k) (wB h k T) (va_A (wB h k T σ) sz)) (va_A (wB h k T σ) sz)) 0 0 (va_A (wB h k T σ) sz) := by
  refine Met.ofW (cc := cX3_longest) (maxL := 3) (ret := (some .int)) (by decide) rfl ?_
  intro p e s m args below meth c s₁ B hml hv
  obtain ⟨rfl, hsz, hP, hK, hD0, hZ⟩ := hv
  have hx := B.exec
  have hb := B.bytes
  have hr := B.returns
  have hts : ∀ w ∈ gG, w.before _ s = true := fun w h => atoms_spec (ws := wsX3_longest) B.pre w (List.mem_cons_of_mem _ h)
  have hown : s.vm.findClass RX3 = some m.cls := findClass_of_methodNamed B.named
  have hlocks := B.notSynchronized
  subst hsz
  have hD := hD0.self (sz := s.heap.size)
  generalize hAe : va_A (wB h k T σ) s.heap.size = A at hD hZ ⊢
  have hA : ∀ q : Nat, s.heap.size ≤ q → A q := fun q h => by rw [← hAe]; exact Or.inr h
  have hS : va_S A s.heap s.heap [] := va_S.rf
  have L4 : ∀ (n : Nat), ∀ (z1 : Int32) (z2 : Int32) (σ : gS) (H : Heap) (locs : List Loc) (ls : Array Slot), fn_X3_longest_L4 T n z1 z2 σ = some y → va_P (dC, dI) vwCl (wB h k T σ) H → va_D A (wB h k T σ) → va_S A s.heap H locs → lv_has ls 3 [(0, .ref (h 0)), (1, .int z1), (2, .int z2)] → W p l e ({ frames := 1, cells := 0, slots := 0, locals := 22 }) s m ([.ref (h 0)] : List Value).toArray below meth c H locs 0 0 (MQ below (va_Qi (fun r u => (r, u) = y) (uAt (dC, dI) vwCl (tB k) (wB h k T) A) A) ([.ref (h 0)] : List Value).toArray s 0 0 A) (F0 m 4 ls []) := by
    intro n
    induction n with
    | zero => intro z1 z2 σ H locs ls hf; exact absurd hf (by rw [fn_X3_longest_L4]; exact nofun)
    | succ n ih =>
      intro z1 z2 σ H locs ls hf hP hD hS hl
      rw [fn_X3_longest_L4] at hf
      refine lv_iload_n hx hb dX3_longest_4 rfl (lv_at hl 2 rfl) ?_
      refine lv_iconst (v := 3) hx hb dX3_longest_5 (by decide) ?_
      refine lv_aload_n hx hb dX3_longest_6 rfl (lv_at hl 0 rfl) ?_
      refine va_get (D := (dC, dI)) (ci := 3) (v := .int (σ 0 0)) (C := RX3) (T := TX3) (N := 11) hx hb hts inG_X3 hown hK hP 0 rfl rfl 0 (by decide) (hts _ mg_365) (fun _ h9 => h9) rfl dX3_longest_7 ?_
      refine lv_imul hx hb dX3_longest_10 ?_
      refine lv_icmp_ge (tgt := 35) hx hb dX3_longest_11 (by decide) (fun hq => ?_) (fun hq => ?_)
      · have hf := gs_t hf hq
        refine lv_iload_n hx hb dX3_longest_35 rfl (lv_at hl 1 rfl) ?_
        exact W.iret (v := z1) hx hb hr (fun t ht hW => u_ri (Option.some.inj hf) ht hW hP hK hD hS) hS.2.2 dX3_longest_36
      · have hf := gs_f hf hq
        refine lv_aload_n hx hb dX3_longest_14 rfl (lv_at hl 0 rfl) ?_
        refine lv_iload_n hx hb dX3_longest_15 rfl (lv_at hl 2 rfl) ?_
        obtain ⟨r1, σ2, hc, hf⟩ := gs_ob_e hf
        have hF := u_free hD hS hA
        refine u_calli (va_runV (As := [.int z2]) (rest := []) ⟨hx, hb, hml, hown, hts⟩ (ct_X3_run l dC dI h k T σ H.size z2 _ hc) (cwV 1 hts (gd_V mg_386 mg_387 mg_15 mg_36 mg_388) rfl rfl rfl (by decide +kernel) ⟨Nat.le_of_ble_eq_true rfl, Nat.le_of_ble_eq_true rfl⟩) (u_preV zB_g hK hP hD hS hF hZ (va_recv hK hP (ci := 3) (q0 := 0) rfl rfl)) rfl rfl hl.1 rfl (lv_room (Nat.le_of_ble_eq_true rfl)) dX3_longest_16 ⟨Nat.le_refl _, Nat.le_refl _⟩) hS hF (fun H locs hP hD hS => ?_)
        refine lv_aload_n hx hb dX3_longest_19 rfl (lv_at hl 0 rfl) ?_
        refine lv_iload_n hx hb dX3_longest_20 rfl (lv_at hl 1 rfl) ?_
        obtain ⟨r3, σ4, hc, hf⟩ := gs_ob_e hf
        have hF := u_free hD hS hA
        refine u_calli (va_runV (As := [.int z1]) (rest := [.int r1]) ⟨hx, hb, hml, hown, hts⟩ (ct_X3_run l dC dI h k T σ2 H.size z1 _ hc) (cwV 1 hts (gd_V mg_386 mg_387 mg_15 mg_36 mg_388) rfl rfl rfl (by decide +kernel) ⟨Nat.le_of_ble_eq_true rfl, Nat.le_of_ble_eq_true rfl⟩) (u_preV zB_g hK hP hD hS hF hZ (va_recv hK hP (ci := 3) (q0 := 0) rfl rfl)) rfl rfl hl.1 rfl (lv_room (Nat.le_of_ble_eq_true rfl)) dX3_longest_21 ⟨Nat.le_refl _, Nat.le_refl _⟩) hS hF (fun H locs hP hD hS => ?_)
        refine lv_icmp_le (tgt := 29) hx hb dX3_longest_24 (by decide) (fun hq => ?_) (fun hq => ?_)
        · have hf := gs_t hf hq
          refine lv_iinc (v := z2 + 1) (lv' := [(2, .int (z2 + 1)), (0, .ref (h 0)), (1, .int z1)]) hx hb dX3_longest_29 hl (k := 2) rfl rfl (by decide) rfl (fun ls hl => ?_)
          refine lv_goto (tgt := 4) hx hb dX3_longest_32 (by decide) ?_
          exact ih z1 (z2 + 1) σ4 _ _ _ hf hP hD hS (lv_sub hl [1, 2, 0] rfl)
        · have hf := gs_f hf hq
          refine lv_iload_n hx hb dX3_longest_27 rfl (lv_at hl 2 rfl) ?_
          refine lv_istore_n (lv' := [(1, .int z2), (0, .ref (h 0)), (2, .int z2)]) hx hb dX3_longest_28 rfl hl (by decide) rfl (fun ls hl => ?_)
          refine lv_iinc (v := z2 + 1) (lv' := [(2, .int (z2 + 1)), (1, .int z2), (0, .ref (h 0))]) hx hb dX3_longest_29 hl (k := 2) rfl rfl (by decide) rfl (fun ls hl => ?_)
          refine lv_goto (tgt := 4) hx hb dX3_longest_32 (by decide) ?_
          exact ih z2 (z2 + 1) σ4 _ _ _ hf hP hD hS (lv_sub hl [2, 1, 0] rfl)
  have hl := lv_entry ([.ref (h 0)]) (n := 3) (Nat.le_of_ble_eq_true rfl)
  rw [lg_entry_eq]
  generalize (lg_sl ([.ref (h 0)]) ++ List.replicate (3 - (lg_sl ([.ref (h 0)])).length) Slot.unset).toArray = ls at hl ⊢
  have hl : lv_has ls 3 [(0, .ref (h 0))] := hl
  rw [fn_X3_longest] at hf
  refine lv_iconst (v := 0) hx hb dX3_longest_0 (by decide) ?_
  refine lv_istore_n (lv' := [(1, .int 0), (0, .ref (h 0))]) hx hb dX3_longest_1 rfl hl (by decide) rfl (fun ls hl => ?_)
  refine lv_iconst (v := 0) hx hb dX3_longest_2 (by decide) ?_
  refine lv_istore_n (lv' := [(2, .int 0), (1, .int 0), (0, .ref (h 0))]) hx hb dX3_longest_3 rfl hl (by decide) rfl (fun ls hl => ?_)
  exact L4 gs_fu 0 0 σ _ _ _ hf hP hD hS (lv_sub hl [2, 1, 0] rfl)
set_option maxHeartbeats 4000000 in
set_option maxRecDepth 100000 in
theorem ct_X3_place (l : Launch) (dC : Nat → ClassId) (dI : Nat → Nat → Nat) (h : Nat → Nat) (k : Nat → ClassId) (T : Nat) (σ : gS) (sz : Nat) (x1 : Int32) (x2 : Int32) (y : Int32 × gS) (hf : fn_X3_place T x1 x2 σ = some y) : Met l yX3_place wsX3_place ({ frames := 2, cells := 0, slots := 0, locals := 44 }) (va_Pc [.ref (h 0), .int x1, .int x2] (uPre (dC, dI) vwCl (tB k) (wB h k T) zB σ sz)) (va_Qi (fun r u => (r, u) = y) (uAt (dC, dI) vwCl (tB k) (wB h k T) (va_A (wB h k T σ) sz)) (va_A (wB h k T σ) sz)) 0 0 (va_A (wB h k T σ) sz) := by
  refine Met.ofW (cc := cX3_place) (maxL := 7) (ret := (some .boolean)) (by decide) rfl ?_
  intro p e s m args below meth c s₁ B hml hv
  obtain ⟨rfl, hsz, hP, hK, hD0, hZ⟩ := hv
  have hx := B.exec
  have hb := B.bytes
  have hr := B.returns
  have hts : ∀ w ∈ gG, w.before _ s = true := fun w h => atoms_spec (ws := wsX3_place) B.pre w (List.mem_cons_of_mem _ h)
  have hown : s.vm.findClass RX3 = some m.cls := findClass_of_methodNamed B.named
  have hlocks := B.notSynchronized
  subst hsz
  have hD := hD0.self (sz := s.heap.size)
  generalize hAe : va_A (wB h k T σ) s.heap.size = A at hD hZ ⊢
  have hA : ∀ q : Nat, s.heap.size ≤ q → A q := fun q h => by rw [← hAe]; exact Or.inr h
  have hS : va_S A s.heap s.heap [] := va_S.rf
  have L41 : ∀ (n : Nat), ∀ (z1 : Int32) (z3 : Int32) (z4 : Int32) (σ : gS) (H : Heap) (locs : List Loc) (ls : Array Slot), fn_X3_place_L41 T n z1 z3 z4 σ = some y → va_P (dC, dI) vwCl (wB h k T σ) H → va_D A (wB h k T σ) → va_S A s.heap H locs → lv_has ls 7 [(0, .ref (h 0)), (1, .int z1), (3, .int z3), (4, .int z4)] → W p l e ({ frames := 2, cells := 0, slots := 0, locals := 44 }) s m ([.ref (h 0), .int x1, .int x2] : List Value).toArray below meth c H locs 0 0 (MQ below (va_Qi (fun r u => (r, u) = y) (uAt (dC, dI) vwCl (tB k) (wB h k T) A) A) ([.ref (h 0), .int x1, .int x2] : List Value).toArray s 0 0 A) (F0 m 41 ls []) := by
    intro n
    induction n with
    | zero => intro z1 z3 z4 σ H locs ls hf; exact absurd hf (by rw [fn_X3_place_L41]; exact nofun)
    | succ n ih =>
      intro z1 z3 z4 σ H locs ls hf hP hD hS hl
      rw [fn_X3_place_L41] at hf
      refine lv_iload hx hb dX3_place_41 (lv_at hl 3 rfl) ?_
      refine lv_iconst (v := 3) hx hb dX3_place_43 (by decide) ?_
      refine lv_icmp_ge (tgt := 106) hx hb dX3_place_44 (by decide) (fun hq => ?_) (fun hq => ?_)
      · have hf := gs_t hf hq
        refine lv_iload_n hx hb dX3_place_106 rfl (lv_at hl 2 rfl) ?_
        refine lv_if_ne (tgt := 114) hx hb dX3_place_107 (by decide) (fun hq => ?_) (fun hq => ?_)
        · have hf := gs_f hf hq
          refine lv_iconst (v := 0) hx hb dX3_place_114 (by decide) ?_
          exact W.zret (v := 0) (ty := .boolean) hx hb hr rfl (fun t ht hW => u_ri (Option.some.inj hf) ht hW hP hK hD hS) hS.2.2 dX3_place_115
        · have hf := gs_t hf hq
          refine lv_iconst (v := 1) hx hb dX3_place_110 (by decide) ?_
          refine lv_goto (tgt := 115) hx hb dX3_place_111 (by decide) ?_
          exact W.zret (v := 1) (ty := .boolean) hx hb hr rfl (fun t ht hW => u_ri (Option.some.inj hf) ht hW hP hK hD hS) hS.2.2 dX3_place_115
      · have hf := gs_f hf hq
        refine lv_iload_n hx hb dX3_place_47 rfl (lv_at hl 2 rfl) ?_
        refine lv_if_le (tgt := 106) hx hb dX3_place_48 (by decide) (fun hq => ?_) (fun hq => ?_)
        · have hf := gs_t hf hq
          refine lv_iload_n hx hb dX3_place_106 rfl (lv_at hl 2 rfl) ?_
          refine lv_if_ne (tgt := 114) hx hb dX3_place_107 (by decide) (fun hq => ?_) (fun hq => ?_)
          · have hf := gs_f hf hq
            refine lv_iconst (v := 0) hx hb dX3_place_114 (by decide) ?_
            exact W.zret (v := 0) (ty := .boolean) hx hb hr rfl (fun t ht hW => u_ri (Option.some.inj hf) ht hW hP hK hD hS) hS.2.2 dX3_place_115
          · have hf := gs_t hf hq
            refine lv_iconst (v := 1) hx hb dX3_place_110 (by decide) ?_
            refine lv_goto (tgt := 115) hx hb dX3_place_111 (by decide) ?_
            exact W.zret (v := 1) (ty := .boolean) hx hb hr rfl (fun t ht hW => u_ri (Option.some.inj hf) ht hW hP hK hD hS) hS.2.2 dX3_place_115
        · have hf := gs_f hf hq
          refine lv_aload_n hx hb dX3_place_51 rfl (lv_at hl 0 rfl) ?_
          obtain ⟨r1, σ2, hc, hf⟩ := gs_ob_e hf
          have hF := u_free hD hS hA
          refine u_calli (va_runV (As := []) (rest := []) ⟨hx, hb, hml, hown, hts⟩ (ct_X3_longest l dC dI h k T σ H.size _ hc) (cwV 0 hts (gd_V mg_392 mg_393 mg_17 mg_36 mg_394) rfl rfl rfl (by decide +kernel) ⟨Nat.le_of_ble_eq_true rfl, Nat.le_of_ble_eq_true rfl⟩) (u_preV zB_g hK hP hD hS hF hZ (va_recv hK hP (ci := 3) (q0 := 0) rfl rfl)) rfl rfl hl.1 rfl (lv_room (Nat.le_of_ble_eq_true rfl)) dX3_place_52 ⟨Nat.le_refl _, Nat.le_refl _⟩) hS hF (fun H locs hP hD hS => ?_)
          refine lv_istore (lv' := [(5, .int r1), (0, .ref (h 0)), (1, .int z1), (3, .int z3), (4, .int z4)]) hx hb dX3_place_55 hl (by decide) rfl (fun ls hl => ?_)
          refine lv_aload_n hx hb dX3_place_57 rfl (lv_at hl 1 rfl) ?_
          refine lv_iload hx hb dX3_place_58 (lv_at hl 0 rfl) ?_
          obtain ⟨r3, σ4, hc, hf⟩ := gs_ob_e hf
          have hF := u_free hD hS hA
          refine u_calli (va_runV (As := [.int r1]) (rest := []) ⟨hx, hb, hml, hown, hts⟩ (ct_X3_run l dC dI h k T σ2 H.size r1 _ hc) (cwV 1 hts (gd_V mg_386 mg_387 mg_15 mg_36 mg_388) rfl rfl rfl (by decide +kernel) ⟨Nat.le_of_ble_eq_true rfl, Nat.le_of_ble_eq_true rfl⟩) (u_preV zB_g hK hP hD hS hF hZ (va_recv hK hP (ci := 3) (q0 := 0) rfl rfl)) rfl rfl hl.1 rfl (lv_room (Nat.le_of_ble_eq_true rfl)) dX3_place_60 ⟨Nat.le_refl _, Nat.le_refl _⟩) hS hF (fun H locs hP hD hS => ?_)
          refine lv_iload_n hx hb dX3_place_63 rfl (lv_at hl 3 rfl) ?_
          refine lv_icmp_ge (tgt := 76) hx hb dX3_place_64 (by decide) (fun hq => ?_) (fun hq => ?_)
          · have hf := gs_t hf hq
            refine lv_iload_n hx hb dX3_place_76 rfl (lv_at hl 3 rfl) ?_
            refine lv_istore (lv' := [(6, .int z3), (5, .int r1), (0, .ref (h 0)), (1, .int z1), (3, .int z3), (4, .int z4)]) hx hb dX3_place_77 hl (by decide) rfl (fun ls hl => ?_)
            refine lv_iload hx hb dX3_place_79 (lv_at hl 0 rfl) ?_
            refine lv_if_ne (tgt := 86) hx hb dX3_place_81 (by decide) (fun hq => ?_) (fun hq => ?_)
            · have hf := gs_f hf hq
              refine lv_aload_n hx hb dX3_place_86 rfl (lv_at hl 2 rfl) ?_
              refine lv_iload_n hx hb dX3_place_87 rfl (lv_at hl 3 rfl) ?_
              refine lv_iload hx hb dX3_place_88 (lv_at hl 1 rfl) ?_
              refine lv_iload hx hb dX3_place_90 (lv_at hl 0 rfl) ?_
              obtain ⟨r5, σ6, hc, hf⟩ := gs_ob_e hf
              have hF := u_free hD hS hA
              refine u_callv (va_runV (As := [.int z1, .int r1, .int z3]) (rest := []) ⟨hx, hb, hml, hown, hts⟩ (ct_X3_give l dC dI h k T σ4 H.size z1 r1 z3 _ hc) (cwV 3 hts (gd_V mg_389 mg_390 mg_16 mg_36 mg_391) rfl rfl rfl (by decide +kernel) ⟨Nat.le_of_ble_eq_true rfl, Nat.le_of_ble_eq_true rfl⟩) (u_preV zB_g hK hP hD hS hF hZ (va_recv hK hP (ci := 3) (q0 := 0) rfl rfl)) rfl rfl hl.1 rfl (lv_room (Nat.le_of_ble_eq_true rfl)) dX3_place_92 ⟨Nat.le_refl _, Nat.le_refl _⟩) hS hF (fun H locs hP hD hS => ?_)
              refine lv_iload_n hx hb dX3_place_95 rfl (lv_at hl 4 rfl) ?_
              refine lv_iload hx hb dX3_place_96 (lv_at hl 0 rfl) ?_
              refine lv_isub hx hb dX3_place_98 ?_
              refine lv_istore_n (lv' := [(3, .int (z3 - z3)), (6, .int z3), (5, .int r1), (0, .ref (h 0)), (1, .int z1), (4, .int z4)]) hx hb dX3_place_99 rfl hl (by decide) rfl (fun ls hl => ?_)
              refine lv_iinc (v := z4 + 1) (lv' := [(4, .int (z4 + 1)), (3, .int (z3 - z3)), (6, .int z3), (5, .int r1), (0, .ref (h 0)), (1, .int z1)]) hx hb dX3_place_100 hl (k := 5) rfl rfl (by decide) rfl (fun ls hl => ?_)
              refine lv_goto (tgt := 41) hx hb dX3_place_103 (by decide) ?_
              exact ih z1 (z3 - z3) (z4 + 1) σ6 _ _ _ hf hP hD hS (lv_sub hl [4, 5, 1, 0] rfl)
            · have hf := gs_t hf hq
              refine lv_iconst (v := 0) hx hb dX3_place_84 (by decide) ?_
              exact W.zret (v := 0) (ty := .boolean) hx hb hr rfl (fun t ht hW => u_ri (Option.some.inj hf) ht hW hP hK hD hS) hS.2.2 dX3_place_85
          · have hf := gs_f hf hq
            refine lv_aload_n hx hb dX3_place_67 rfl (lv_at hl 1 rfl) ?_
            refine lv_iload hx hb dX3_place_68 (lv_at hl 0 rfl) ?_
            obtain ⟨r7, σ8, hc, hf⟩ := gs_ob_e hf
            have hF := u_free hD hS hA
            refine u_calli (va_runV (As := [.int r1]) (rest := []) ⟨hx, hb, hml, hown, hts⟩ (ct_X3_run l dC dI h k T σ4 H.size r1 _ hc) (cwV 1 hts (gd_V mg_386 mg_387 mg_15 mg_36 mg_388) rfl rfl rfl (by decide +kernel) ⟨Nat.le_of_ble_eq_true rfl, Nat.le_of_ble_eq_true rfl⟩) (u_preV zB_g hK hP hD hS hF hZ (va_recv hK hP (ci := 3) (q0 := 0) rfl rfl)) rfl rfl hl.1 rfl (lv_room (Nat.le_of_ble_eq_true rfl)) dX3_place_70 ⟨Nat.le_refl _, Nat.le_refl _⟩) hS hF (fun H locs hP hD hS => ?_)
            refine lv_goto (tgt := 77) hx hb dX3_place_73 (by decide) ?_
            refine lv_istore (lv' := [(6, .int r7), (5, .int r1), (0, .ref (h 0)), (1, .int z1), (3, .int z3), (4, .int z4)]) hx hb dX3_place_77 hl (by decide) rfl (fun ls hl => ?_)
            refine lv_iload hx hb dX3_place_79 (lv_at hl 0 rfl) ?_
            refine lv_if_ne (tgt := 86) hx hb dX3_place_81 (by decide) (fun hq => ?_) (fun hq => ?_)
            · have hf := gs_f hf hq
              refine lv_aload_n hx hb dX3_place_86 rfl (lv_at hl 2 rfl) ?_
              refine lv_iload_n hx hb dX3_place_87 rfl (lv_at hl 3 rfl) ?_
              refine lv_iload hx hb dX3_place_88 (lv_at hl 1 rfl) ?_
              refine lv_iload hx hb dX3_place_90 (lv_at hl 0 rfl) ?_
              obtain ⟨r9, σ10, hc, hf⟩ := gs_ob_e hf
              have hF := u_free hD hS hA
              refine u_callv (va_runV (As := [.int z1, .int r1, .int r7]) (rest := []) ⟨hx, hb, hml, hown, hts⟩ (ct_X3_give l dC dI h k T σ8 H.size z1 r1 r7 _ hc) (cwV 3 hts (gd_V mg_389 mg_390 mg_16 mg_36 mg_391) rfl rfl rfl (by decide +kernel) ⟨Nat.le_of_ble_eq_true rfl, Nat.le_of_ble_eq_true rfl⟩) (u_preV zB_g hK hP hD hS hF hZ (va_recv hK hP (ci := 3) (q0 := 0) rfl rfl)) rfl rfl hl.1 rfl (lv_room (Nat.le_of_ble_eq_true rfl)) dX3_place_92 ⟨Nat.le_refl _, Nat.le_refl _⟩) hS hF (fun H locs hP hD hS => ?_)
              refine lv_iload_n hx hb dX3_place_95 rfl (lv_at hl 4 rfl) ?_
              refine lv_iload hx hb dX3_place_96 (lv_at hl 0 rfl) ?_
              refine lv_isub hx hb dX3_place_98 ?_
              refine lv_istore_n (lv' := [(3, .int (z3 - r7)), (6, .int r7), (5, .int r1), (0, .ref (h 0)), (1, .int z1), (4, .int z4)]) hx hb dX3_place_99 rfl hl (by decide) rfl (fun ls hl => ?_)
              refine lv_iinc (v := z4 + 1) (lv' := [(4, .int (z4 + 1)), (3, .int (z3 - r7)), (6, .int r7), (5, .int r1), (0, .ref (h 0)), (1, .int z1)]) hx hb dX3_place_100 hl (k := 5) rfl rfl (by decide) rfl (fun ls hl => ?_)
              refine lv_goto (tgt := 41) hx hb dX3_place_103 (by decide) ?_
              exact ih z1 (z3 - r7) (z4 + 1) σ10 _ _ _ hf hP hD hS (lv_sub hl [4, 5, 1, 0] rfl)
            · have hf := gs_t hf hq
              refine lv_iconst (v := 0) hx hb dX3_place_84 (by decide) ?_
              exact W.zret (v := 0) (ty := .boolean) hx hb hr rfl (fun t ht hW => u_ri (Option.some.inj hf) ht hW hP hK hD hS) hS.2.2 dX3_place_85
  have L2 : ∀ (n : Nat), ∀ (z1 : Int32) (z2 : Int32) (z3 : Int32) (σ : gS) (H : Heap) (locs : List Loc) (ls : Array Slot), fn_X3_place_L2 T n z1 z2 z3 σ = some y → va_P (dC, dI) vwCl (wB h k T σ) H → va_D A (wB h k T σ) → va_S A s.heap H locs → lv_has ls 7 [(0, .ref (h 0)), (1, .int z1), (2, .int z2), (3, .int z3)] → W p l e ({ frames := 2, cells := 0, slots := 0, locals := 44 }) s m ([.ref (h 0), .int x1, .int x2] : List Value).toArray below meth c H locs 0 0 (MQ below (va_Qi (fun r u => (r, u) = y) (uAt (dC, dI) vwCl (tB k) (wB h k T) A) A) ([.ref (h 0), .int x1, .int x2] : List Value).toArray s 0 0 A) (F0 m 2 ls []) := by
    intro n
    induction n with
    | zero => intro z1 z2 z3 σ H locs ls hf; exact absurd hf (by rw [fn_X3_place_L2]; exact nofun)
    | succ n ih =>
      intro z1 z2 z3 σ H locs ls hf hP hD hS hl
      rw [fn_X3_place_L2] at hf
      refine lv_iload_n hx hb dX3_place_2 rfl (lv_at hl 3 rfl) ?_
      refine lv_iconst (v := 3) hx hb dX3_place_3 (by decide) ?_
      refine lv_aload_n hx hb dX3_place_4 rfl (lv_at hl 0 rfl) ?_
      refine va_get (D := (dC, dI)) (ci := 3) (v := .int (σ 0 0)) (C := RX3) (T := TX3) (N := 11) hx hb hts inG_X3 hown hK hP 0 rfl rfl 0 (by decide) (hts _ mg_365) (fun _ h9 => h9) rfl dX3_place_5 ?_
      refine lv_imul hx hb dX3_place_8 ?_
      refine lv_icmp_ge (tgt := 36) hx hb dX3_place_9 (by decide) (fun hq => ?_) (fun hq => ?_)
      · have hf := gs_t hf hq
        refine lv_iload_n hx hb dX3_place_36 rfl (lv_at hl 2 rfl) ?_
        refine lv_istore_n (lv' := [(3, .int z2), (0, .ref (h 0)), (1, .int z1), (2, .int z2)]) hx hb dX3_place_37 rfl hl (by decide) rfl (fun ls hl => ?_)
        refine lv_iconst (v := 0) hx hb dX3_place_38 (by decide) ?_
        refine lv_istore (lv' := [(4, .int 0), (3, .int z2), (0, .ref (h 0)), (1, .int z1), (2, .int z2)]) hx hb dX3_place_39 hl (by decide) rfl (fun ls hl => ?_)
        exact L41 gs_fu z1 z2 0 σ _ _ _ hf hP hD hS (lv_sub hl [2, 3, 1, 0] rfl)
      · have hf := gs_f hf hq
        refine lv_aload_n hx hb dX3_place_12 rfl (lv_at hl 0 rfl) ?_
        refine lv_iload_n hx hb dX3_place_13 rfl (lv_at hl 3 rfl) ?_
        obtain ⟨r11, σ12, hc, hf⟩ := gs_ob_e hf
        have hF := u_free hD hS hA
        refine u_calli (va_runV (As := [.int z3]) (rest := []) ⟨hx, hb, hml, hown, hts⟩ (ct_X3_run l dC dI h k T σ H.size z3 _ hc) (cwV 1 hts (gd_V mg_386 mg_387 mg_15 mg_36 mg_388) rfl rfl rfl (by decide +kernel) ⟨Nat.le_of_ble_eq_true rfl, Nat.le_of_ble_eq_true rfl⟩) (u_preV zB_g hK hP hD hS hF hZ (va_recv hK hP (ci := 3) (q0 := 0) rfl rfl)) rfl rfl hl.1 rfl (lv_room (Nat.le_of_ble_eq_true rfl)) dX3_place_14 ⟨Nat.le_refl _, Nat.le_refl _⟩) hS hF (fun H locs hP hD hS => ?_)
        refine lv_iload_n hx hb dX3_place_17 rfl (lv_at hl 2 rfl) ?_
        refine lv_icmp_lt (tgt := 30) hx hb dX3_place_18 (by decide) (fun hq => ?_) (fun hq => ?_)
        · have hf := gs_t hf hq
          refine lv_iinc (v := z3 + 1) (lv' := [(3, .int (z3 + 1)), (0, .ref (h 0)), (1, .int z1), (2, .int z2)]) hx hb dX3_place_30 hl (k := 3) rfl rfl (by decide) rfl (fun ls hl => ?_)
          refine lv_goto (tgt := 2) hx hb dX3_place_33 (by decide) ?_
          exact ih z1 z2 (z3 + 1) σ12 _ _ _ hf hP hD hS (lv_sub hl [1, 2, 3, 0] rfl)
        · have hf := gs_f hf hq
          refine lv_aload_n hx hb dX3_place_21 rfl (lv_at hl 0 rfl) ?_
          refine lv_iload_n hx hb dX3_place_22 rfl (lv_at hl 1 rfl) ?_
          refine lv_iload_n hx hb dX3_place_23 rfl (lv_at hl 3 rfl) ?_
          refine lv_iload_n hx hb dX3_place_24 rfl (lv_at hl 2 rfl) ?_
          obtain ⟨r13, σ14, hc, hf⟩ := gs_ob_e hf
          have hF := u_free hD hS hA
          refine u_callv (va_runV (As := [.int z1, .int z3, .int z2]) (rest := []) ⟨hx, hb, hml, hown, hts⟩ (ct_X3_give l dC dI h k T σ12 H.size z1 z3 z2 _ hc) (cwV 3 hts (gd_V mg_389 mg_390 mg_16 mg_36 mg_391) rfl rfl rfl (by decide +kernel) ⟨Nat.le_of_ble_eq_true rfl, Nat.le_of_ble_eq_true rfl⟩) (u_preV zB_g hK hP hD hS hF hZ (va_recv hK hP (ci := 3) (q0 := 0) rfl rfl)) rfl rfl hl.1 rfl (lv_room (Nat.le_of_ble_eq_true rfl)) dX3_place_25 ⟨Nat.le_refl _, Nat.le_refl _⟩) hS hF (fun H locs hP hD hS => ?_)
          refine lv_iconst (v := 1) hx hb dX3_place_28 (by decide) ?_
          exact W.zret (v := 1) (ty := .boolean) hx hb hr rfl (fun t ht hW => u_ri (Option.some.inj hf) ht hW hP hK hD hS) hS.2.2 dX3_place_29
  have hl := lv_entry ([.ref (h 0), .int x1, .int x2]) (n := 7) (Nat.le_of_ble_eq_true rfl)
  rw [lg_entry_eq]
  generalize (lg_sl ([.ref (h 0), .int x1, .int x2]) ++ List.replicate (7 - (lg_sl ([.ref (h 0), .int x1, .int x2])).length) Slot.unset).toArray = ls at hl ⊢
  have hl : lv_has ls 7 [(0, .ref (h 0)), (1, .int x1), (2, .int x2)] := hl
  rw [fn_X3_place] at hf
  refine lv_iconst (v := 0) hx hb dX3_place_0 (by decide) ?_
  refine lv_istore_n (lv' := [(3, .int 0), (0, .ref (h 0)), (1, .int x1), (2, .int x2)]) hx hb dX3_place_1 rfl hl (by decide) rfl (fun ls hl => ?_)
  exact L2 gs_fu x1 x2 0 σ _ _ _ hf hP hD hS (lv_sub hl [1, 2, 3, 0] rfl)
set_option maxHeartbeats 4000000 in
set_option maxRecDepth 100000 in
theorem ct_X3_remove (l : Launch) (dC : Nat → ClassId) (dI : Nat → Nat → Nat) (h : Nat → Nat) (k : Nat → ClassId) (T : Nat) (σ : gS) (sz : Nat) (x1 : Int32) (y : Int32 × gS) (hf : fn_X3_remove T x1 σ = some y) : Met l yX3_remove wsX3_remove ({ frames := 1, cells := 0, slots := 0, locals := 21 }) (va_Pc [.ref (h 0), .int x1] (uPre (dC, dI) vwCl (tB k) (wB h k T) zB σ sz)) (va_Qi (fun r u => (r, u) = y) (uAt (dC, dI) vwCl (tB k) (wB h k T) (va_A (wB h k T σ) sz)) (va_A (wB h k T σ) sz)) 0 0 (va_A (wB h k T σ) sz) := by
  refine Met.ofW (cc := cX3_remove) (maxL := 3) (ret := (some .int)) (by decide) rfl ?_
  intro p e s m args below meth c s₁ B hml hv
  obtain ⟨rfl, hsz, hP, hK, hD0, hZ⟩ := hv
  have hx := B.exec
  have hb := B.bytes
  have hr := B.returns
  have hts : ∀ w ∈ gG, w.before _ s = true := fun w h => atoms_spec (ws := wsX3_remove) B.pre w (List.mem_cons_of_mem _ h)
  have hown : s.vm.findClass RX3 = some m.cls := findClass_of_methodNamed B.named
  have hlocks := B.notSynchronized
  subst hsz
  have hD := hD0.self (sz := s.heap.size)
  generalize hAe : va_A (wB h k T σ) s.heap.size = A at hD hZ ⊢
  have hA : ∀ q : Nat, s.heap.size ≤ q → A q := fun q h => by rw [← hAe]; exact Or.inr h
  have hS : va_S A s.heap s.heap [] := va_S.rf
  have L22 : ∀ (n : Nat), ∀ (z1 : Int32) (z2 : Int32) (σ : gS) (H : Heap) (locs : List Loc) (ls : Array Slot), fn_X3_remove_L22 T n z1 z2 σ = some y → va_P (dC, dI) vwCl (wB h k T σ) H → va_D A (wB h k T σ) → va_S A s.heap H locs → lv_has ls 3 [(0, .ref (h 0)), (1, .int z1), (2, .int z2)] → W p l e ({ frames := 1, cells := 0, slots := 0, locals := 21 }) s m ([.ref (h 0), .int x1] : List Value).toArray below meth c H locs 0 0 (MQ below (va_Qi (fun r u => (r, u) = y) (uAt (dC, dI) vwCl (tB k) (wB h k T) A) A) ([.ref (h 0), .int x1] : List Value).toArray s 0 0 A) (F0 m 22 ls []) := by
    intro n
    induction n with
    | zero => intro z1 z2 σ H locs ls hf; exact absurd hf (by rw [fn_X3_remove_L22]; exact nofun)
    | succ n ih =>
      intro z1 z2 σ H locs ls hf hP hD hS hl
      rw [fn_X3_remove_L22] at hf
      refine lv_iload_n hx hb dX3_remove_22 rfl (lv_at hl 2 rfl) ?_
      refine lv_bipush (v := 63) hx hb dX3_remove_23 (by decide) ?_
      refine lv_icmp_ge (tgt := 53) hx hb dX3_remove_25 (by decide) (fun hq => ?_) (fun hq => ?_)
      · have hf := gs_t hf hq
        refine lv_aload_n hx hb dX3_remove_53 rfl (lv_at hl 0 rfl) ?_
        refine va_get (D := (dC, dI)) (ci := 3) (v := .ref (h 9)) (C := RX3) (T := TX3) (N := 11) hx hb hts inG_X3 hown hK hP 0 rfl rfl 9 (by decide) (hts _ mg_374) (fun _ h9 => h9) rfl dX3_remove_54 ?_
        refine lv_iload_n hx hb dX3_remove_57 rfl (lv_at hl 1 rfl) ?_
        refine lv_iconst (v := 0) hx hb dX3_remove_58 (by decide) ?_
        obtain ⟨hin, hf⟩ := gs_gd_e hf
        refine va_iast hx hb hK hP hD hS 9 8 rfl rfl hin dX3_remove_59 (fun H locs hP hD hS => ?_)
        obtain ⟨σ3, es, hf⟩ := gs_lt_e hf
        have hP : va_P (dC, dI) vwCl (wB h k T σ3) H := by rw [es]; exact hP
        have hD : va_D A (wB h k T σ3) := by rw [es]; exact hD
        clear es
        refine lv_iconst (v := 0) hx hb dX3_remove_60 (by decide) ?_
        exact W.iret (v := 0) hx hb hr (fun t ht hW => u_ri (Option.some.inj hf) ht hW hP hK hD hS) hS.2.2 dX3_remove_61
      · have hf := gs_f hf hq
        refine lv_aload_n hx hb dX3_remove_28 rfl (lv_at hl 0 rfl) ?_
        refine va_get (D := (dC, dI)) (ci := 3) (v := .ref (h 6)) (C := RX3) (T := TX3) (N := 11) hx hb hts inG_X3 hown hK hP 0 rfl rfl 6 (by decide) (hts _ mg_371) (fun _ h9 => h9) rfl dX3_remove_29 ?_
        refine lv_iload_n hx hb dX3_remove_32 rfl (lv_at hl 2 rfl) ?_
        obtain ⟨hin, hf⟩ := gs_gd_e hf
        refine va_iald hx hb hK hP 6 5 rfl rfl hin dX3_remove_33 ?_
        refine lv_iconst (v := 1) hx hb dX3_remove_34 (by decide) ?_
        refine lv_iload_n hx hb dX3_remove_35 rfl (lv_at hl 1 rfl) ?_
        refine lv_iadd hx hb dX3_remove_36 ?_
        refine lv_icmp_ne (tgt := 47) hx hb dX3_remove_37 (by decide) (fun hq => ?_) (fun hq => ?_)
        · have hf := gs_f hf hq
          refine lv_iinc (v := z2 + 1) (lv' := [(2, .int (z2 + 1)), (0, .ref (h 0)), (1, .int z1)]) hx hb dX3_remove_47 hl (k := 2) rfl rfl (by decide) rfl (fun ls hl => ?_)
          refine lv_goto (tgt := 22) hx hb dX3_remove_50 (by decide) ?_
          exact ih z1 (z2 + 1) σ _ _ _ hf hP hD hS (lv_sub hl [1, 2, 0] rfl)
        · have hf := gs_t hf hq
          refine lv_aload_n hx hb dX3_remove_40 rfl (lv_at hl 0 rfl) ?_
          refine va_get (D := (dC, dI)) (ci := 3) (v := .ref (h 6)) (C := RX3) (T := TX3) (N := 11) hx hb hts inG_X3 hown hK hP 0 rfl rfl 6 (by decide) (hts _ mg_371) (fun _ h9 => h9) rfl dX3_remove_41 ?_
          refine lv_iload_n hx hb dX3_remove_44 rfl (lv_at hl 2 rfl) ?_
          refine lv_iconst (v := 0) hx hb dX3_remove_45 (by decide) ?_
          obtain ⟨hin, hf⟩ := gs_gd_e hf
          refine va_iast hx hb hK hP hD hS 6 5 rfl rfl hin dX3_remove_46 (fun H locs hP hD hS => ?_)
          obtain ⟨σ4, es, hf⟩ := gs_lt_e hf
          have hP : va_P (dC, dI) vwCl (wB h k T σ4) H := by rw [es]; exact hP
          have hD : va_D A (wB h k T σ4) := by rw [es]; exact hD
          clear es
          refine lv_iinc (v := z2 + 1) (lv' := [(2, .int (z2 + 1)), (0, .ref (h 0)), (1, .int z1)]) hx hb dX3_remove_47 hl (k := 2) rfl rfl (by decide) rfl (fun ls hl => ?_)
          refine lv_goto (tgt := 22) hx hb dX3_remove_50 (by decide) ?_
          exact ih z1 (z2 + 1) σ4 _ _ _ hf hP hD hS (lv_sub hl [1, 2, 0] rfl)
  have hl := lv_entry ([.ref (h 0), .int x1]) (n := 3) (Nat.le_of_ble_eq_true rfl)
  rw [lg_entry_eq]
  generalize (lg_sl ([.ref (h 0), .int x1]) ++ List.replicate (3 - (lg_sl ([.ref (h 0), .int x1])).length) Slot.unset).toArray = ls at hl ⊢
  have hl : lv_has ls 3 [(0, .ref (h 0)), (1, .int x1)] := hl
  rw [fn_X3_remove] at hf
  refine lv_iload_n hx hb dX3_remove_0 rfl (lv_at hl 1 rfl) ?_
  refine lv_bipush (v := 8) hx hb dX3_remove_1 (by decide) ?_
  obtain ⟨r1, σ2, hc, hf⟩ := gs_ob_e hf
  have hF := u_free hD hS hA
  refine u_calli (va_runS (As := [.int x1, .int 8]) (rest := []) ⟨hx, hb, hml, hown, hts⟩ (ct_X3_in l dC dI h k T σ s.heap.size x1 8 _ hc) (va_cwS 2 hts (gd_S mg_380 mg_381 mg_36 mg_382) rfl rfl rfl (by decide +kernel) ⟨Nat.le_of_ble_eq_true rfl, Nat.le_of_ble_eq_true rfl⟩) (u_preS zB_g hK hP hD hS hF hZ) rfl rfl hl.1 rfl (lv_room (Nat.le_of_ble_eq_true rfl)) dX3_remove_3 ⟨Nat.le_refl _, Nat.le_refl _⟩) hS hF (fun H locs hP hD hS => ?_)
  refine lv_if_eq (tgt := 18) hx hb dX3_remove_6 (by decide) (fun hq => ?_) (fun hq => ?_)
  · have hf := gs_t hf hq
    refine lv_iconst (v := (-1)) hx hb dX3_remove_18 (by decide) ?_
    exact W.iret (v := (-1)) hx hb hr (fun t ht hW => u_ri (Option.some.inj hf) ht hW hP hK hD hS) hS.2.2 dX3_remove_19
  · have hf := gs_f hf hq
    refine lv_aload_n hx hb dX3_remove_9 rfl (lv_at hl 0 rfl) ?_
    refine va_get (D := (dC, dI)) (ci := 3) (v := .ref (h 9)) (C := RX3) (T := TX3) (N := 11) hx hb hts inG_X3 hown hK hP 0 rfl rfl 9 (by decide) (hts _ mg_374) (fun _ h9 => h9) rfl dX3_remove_10 ?_
    refine lv_iload_n hx hb dX3_remove_13 rfl (lv_at hl 1 rfl) ?_
    obtain ⟨hin, hf⟩ := gs_gd_e hf
    refine va_iald hx hb hK hP 9 8 rfl rfl hin dX3_remove_14 ?_
    refine lv_if_ne (tgt := 20) hx hb dX3_remove_15 (by decide) (fun hq => ?_) (fun hq => ?_)
    · have hf := gs_f hf hq
      refine lv_iconst (v := 0) hx hb dX3_remove_20 (by decide) ?_
      refine lv_istore_n (lv' := [(2, .int 0), (0, .ref (h 0)), (1, .int x1)]) hx hb dX3_remove_21 rfl hl (by decide) rfl (fun ls hl => ?_)
      exact L22 gs_fu x1 0 σ2 _ _ _ hf hP hD hS (lv_sub hl [1, 2, 0] rfl)
    · have hf := gs_t hf hq
      refine lv_iconst (v := (-1)) hx hb dX3_remove_18 (by decide) ?_
      exact W.iret (v := (-1)) hx hb hr (fun t ht hW => u_ri (Option.some.inj hf) ht hW hP hK hD hS) hS.2.2 dX3_remove_19
set_option maxHeartbeats 4000000 in
set_option maxRecDepth 100000 in
theorem ct_X3_create (l : Launch) (dC : Nat → ClassId) (dI : Nat → Nat → Nat) (h : Nat → Nat) (k : Nat → ClassId) (T : Nat) (σ : gS) (sz : Nat) (x1 : Int32) (x2 : Int32) (y : Int32 × gS) (hf : fn_X3_create T x1 x2 σ = some y) : Met l yX3_create wsX3_create ({ frames := 3, cells := 0, slots := 0, locals := 70 }) (va_Pc [.ref (h 0), .int x1, .int x2] (uPre (dC, dI) vwCl (tB k) (wB h k T) zB σ sz)) (va_Qi (fun r u => (r, u) = y) (uAt (dC, dI) vwCl (tB k) (wB h k T) (va_A (wB h k T σ) sz)) (va_A (wB h k T σ) sz)) 0 0 (va_A (wB h k T σ) sz) := by
  refine Met.ofW (cc := cX3_create) (maxL := 4) (ret := (some .int)) (by decide) rfl ?_
  intro p e s m args below meth c s₁ B hml hv
  obtain ⟨rfl, hsz, hP, hK, hD0, hZ⟩ := hv
  have hx := B.exec
  have hb := B.bytes
  have hr := B.returns
  have hts : ∀ w ∈ gG, w.before _ s = true := fun w h => atoms_spec (ws := wsX3_create) B.pre w (List.mem_cons_of_mem _ h)
  have hown : s.vm.findClass RX3 = some m.cls := findClass_of_methodNamed B.named
  have hlocks := B.notSynchronized
  subst hsz
  have hD := hD0.self (sz := s.heap.size)
  generalize hAe : va_A (wB h k T σ) s.heap.size = A at hD hZ ⊢
  have hA : ∀ q : Nat, s.heap.size ≤ q → A q := fun q h => by rw [← hAe]; exact Or.inr h
  have hS : va_S A s.heap s.heap [] := va_S.rf
  have hl := lv_entry ([.ref (h 0), .int x1, .int x2]) (n := 4) (Nat.le_of_ble_eq_true rfl)
  rw [lg_entry_eq]
  generalize (lg_sl ([.ref (h 0), .int x1, .int x2]) ++ List.replicate (4 - (lg_sl ([.ref (h 0), .int x1, .int x2])).length) Slot.unset).toArray = ls at hl ⊢
  have hl : lv_has ls 4 [(0, .ref (h 0)), (1, .int x1), (2, .int x2)] := hl
  rw [fn_X3_create] at hf
  refine lv_iload_n hx hb dX3_create_0 rfl (lv_at hl 1 rfl) ?_
  refine lv_bipush (v := 8) hx hb dX3_create_1 (by decide) ?_
  obtain ⟨r1, σ2, hc, hf⟩ := gs_ob_e hf
  have hF := u_free hD hS hA
  refine u_calli (va_runS (As := [.int x1, .int 8]) (rest := []) ⟨hx, hb, hml, hown, hts⟩ (ct_X3_in l dC dI h k T σ s.heap.size x1 8 _ hc) (va_cwS 2 hts (gd_S mg_380 mg_381 mg_36 mg_382) rfl rfl rfl (by decide +kernel) ⟨Nat.le_of_ble_eq_true rfl, Nat.le_of_ble_eq_true rfl⟩) (u_preS zB_g hK hP hD hS hF hZ) rfl rfl hl.1 rfl (lv_room (Nat.le_of_ble_eq_true rfl)) dX3_create_3 ⟨Nat.le_refl _, Nat.le_refl _⟩) hS hF (fun H locs hP hD hS => ?_)
  refine lv_if_eq (tgt := 29) hx hb dX3_create_6 (by decide) (fun hq => ?_) (fun hq => ?_)
  · have hf := gs_t hf hq
    refine lv_iconst (v := (-1)) hx hb dX3_create_29 (by decide) ?_
    exact W.iret (v := (-1)) hx hb hr (fun t ht hW => u_ri (Option.some.inj hf) ht hW hP hK hD hS) hS.2.2 dX3_create_30
  · have hf := gs_f hf hq
    refine lv_iload_n hx hb dX3_create_9 rfl (lv_at hl 2 rfl) ?_
    refine lv_iconst (v := 1) hx hb dX3_create_10 (by decide) ?_
    refine lv_icmp_lt (tgt := 29) hx hb dX3_create_11 (by decide) (fun hq => ?_) (fun hq => ?_)
    · have hf := gs_t hf hq
      refine lv_iconst (v := (-1)) hx hb dX3_create_29 (by decide) ?_
      exact W.iret (v := (-1)) hx hb hr (fun t ht hW => u_ri (Option.some.inj hf) ht hW hP hK hD hS) hS.2.2 dX3_create_30
    · have hf := gs_f hf hq
      refine lv_iload_n hx hb dX3_create_14 rfl (lv_at hl 2 rfl) ?_
      refine lv_bipush (v := 63) hx hb dX3_create_15 (by decide) ?_
      refine lv_icmp_gt (tgt := 29) hx hb dX3_create_17 (by decide) (fun hq => ?_) (fun hq => ?_)
      · have hf := gs_t hf hq
        refine lv_iconst (v := (-1)) hx hb dX3_create_29 (by decide) ?_
        exact W.iret (v := (-1)) hx hb hr (fun t ht hW => u_ri (Option.some.inj hf) ht hW hP hK hD hS) hS.2.2 dX3_create_30
      · have hf := gs_f hf hq
        refine lv_aload_n hx hb dX3_create_20 rfl (lv_at hl 0 rfl) ?_
        refine va_get (D := (dC, dI)) (ci := 3) (v := .ref (h 9)) (C := RX3) (T := TX3) (N := 11) hx hb hts inG_X3 hown hK hP 0 rfl rfl 9 (by decide) (hts _ mg_374) (fun _ h9 => h9) rfl dX3_create_21 ?_
        refine lv_iload_n hx hb dX3_create_24 rfl (lv_at hl 1 rfl) ?_
        obtain ⟨hin, hf⟩ := gs_gd_e hf
        refine va_iald hx hb hK hP 9 8 rfl rfl hin dX3_create_25 ?_
        refine lv_if_le (tgt := 31) hx hb dX3_create_26 (by decide) (fun hq => ?_) (fun hq => ?_)
        · have hf := gs_t hf hq
          refine lv_aload_n hx hb dX3_create_31 rfl (lv_at hl 0 rfl) ?_
          refine lv_iload_n hx hb dX3_create_32 rfl (lv_at hl 1 rfl) ?_
          refine lv_iload_n hx hb dX3_create_33 rfl (lv_at hl 2 rfl) ?_
          obtain ⟨r3, σ4, hc, hf⟩ := gs_ob_e hf
          have hF := u_free hD hS hA
          refine u_calli (va_runV (As := [.int x1, .int x2]) (rest := []) ⟨hx, hb, hml, hown, hts⟩ (ct_X3_place l dC dI h k T σ2 H.size x1 x2 _ hc) (cwV 2 hts (gd_V mg_383 mg_384 mg_14 mg_36 mg_385) rfl rfl rfl (by decide +kernel) ⟨Nat.le_of_ble_eq_true rfl, Nat.le_of_ble_eq_true rfl⟩) (u_preV zB_g hK hP hD hS hF hZ (va_recv hK hP (ci := 3) (q0 := 0) rfl rfl)) rfl rfl hl.1 rfl (lv_room (Nat.le_of_ble_eq_true rfl)) dX3_create_34 ⟨Nat.le_refl _, Nat.le_refl _⟩) hS hF (fun H locs hP hD hS => ?_)
          refine lv_if_eq (tgt := 47) hx hb dX3_create_37 (by decide) (fun hq => ?_) (fun hq => ?_)
          · have hf := gs_t hf hq
            refine lv_aload_n hx hb dX3_create_47 rfl (lv_at hl 0 rfl) ?_
            refine lv_iload_n hx hb dX3_create_48 rfl (lv_at hl 1 rfl) ?_
            obtain ⟨r5, σ6, hc, hf⟩ := gs_ob_e hf
            have hF := u_free hD hS hA
            refine u_calli (va_runV (As := [.int x1]) (rest := []) ⟨hx, hb, hml, hown, hts⟩ (ct_X3_remove l dC dI h k T σ4 H.size x1 _ hc) (cwV 1 hts (gd_V mg_395 mg_396 mg_397 mg_36 mg_398) rfl rfl rfl (by decide +kernel) ⟨Nat.le_of_ble_eq_true rfl, Nat.le_of_ble_eq_true rfl⟩) (u_preV zB_g hK hP hD hS hF hZ (va_recv hK hP (ci := 3) (q0 := 0) rfl rfl)) rfl rfl hl.1 rfl (lv_room (Nat.le_of_ble_eq_true rfl)) dX3_create_49 ⟨Nat.le_refl _, Nat.le_refl _⟩) hS hF (fun H locs hP hD hS => ?_)
            refine lv_istore_n (lv' := [(3, .int r5), (0, .ref (h 0)), (1, .int x1), (2, .int x2)]) hx hb dX3_create_52 rfl hl (by decide) rfl (fun ls hl => ?_)
            refine lv_bipush (v := (-2)) hx hb dX3_create_53 (by decide) ?_
            exact W.iret (v := (-2)) hx hb hr (fun t ht hW => u_ri (Option.some.inj hf) ht hW hP hK hD hS) hS.2.2 dX3_create_55
          · have hf := gs_f hf hq
            refine lv_aload_n hx hb dX3_create_40 rfl (lv_at hl 0 rfl) ?_
            refine va_get (D := (dC, dI)) (ci := 3) (v := .ref (h 9)) (C := RX3) (T := TX3) (N := 11) hx hb hts inG_X3 hown hK hP 0 rfl rfl 9 (by decide) (hts _ mg_374) (fun _ h9 => h9) rfl dX3_create_41 ?_
            refine lv_iload_n hx hb dX3_create_44 rfl (lv_at hl 1 rfl) ?_
            obtain ⟨hin, hf⟩ := gs_gd_e hf
            refine va_iald hx hb hK hP 9 8 rfl rfl hin dX3_create_45 ?_
            exact W.iret (v := σ4 9 x1.toNatClampNeg) hx hb hr (fun t ht hW => u_ri (Option.some.inj hf) ht hW hP hK hD hS) hS.2.2 dX3_create_46
        · have hf := gs_f hf hq
          refine lv_iconst (v := (-1)) hx hb dX3_create_29 (by decide) ?_
          exact W.iret (v := (-1)) hx hb hr (fun t ht hW => u_ri (Option.some.inj hf) ht hW hP hK hD hS) hS.2.2 dX3_create_30
set_option maxHeartbeats 4000000 in
set_option maxRecDepth 100000 in
theorem ct_X3_block (l : Launch) (dC : Nat → ClassId) (dI : Nat → Nat → Nat) (h : Nat → Nat) (k : Nat → ClassId) (T : Nat) (σ : gS) (sz : Nat) (x1 : Int32) (x2 : Int32) (y : Int32 × gS) (hf : fn_X3_block T x1 x2 σ = some y) : Met l yX3_block wsX3_block ({ frames := 1, cells := 0, slots := 0, locals := 21 }) (va_Pc [.ref (h 0), .int x1, .int x2] (uPre (dC, dI) vwCl (tB k) (wB h k T) zB σ sz)) (va_Qi (fun r u => (r, u) = y) (uAt (dC, dI) vwCl (tB k) (wB h k T) (va_A (wB h k T σ) sz)) (va_A (wB h k T σ) sz)) 0 0 (va_A (wB h k T σ) sz) := by
  refine Met.ofW (cc := cX3_block) (maxL := 5) (ret := (some .int)) (by decide) rfl ?_
  intro p e s m args below meth c s₁ B hml hv
  obtain ⟨rfl, hsz, hP, hK, hD0, hZ⟩ := hv
  have hx := B.exec
  have hb := B.bytes
  have hr := B.returns
  have hts : ∀ w ∈ gG, w.before _ s = true := fun w h => atoms_spec (ws := wsX3_block) B.pre w (List.mem_cons_of_mem _ h)
  have hown : s.vm.findClass RX3 = some m.cls := findClass_of_methodNamed B.named
  have hlocks := B.notSynchronized
  subst hsz
  have hD := hD0.self (sz := s.heap.size)
  generalize hAe : va_A (wB h k T σ) s.heap.size = A at hD hZ ⊢
  have hA : ∀ q : Nat, s.heap.size ≤ q → A q := fun q h => by rw [← hAe]; exact Or.inr h
  have hS : va_S A s.heap s.heap [] := va_S.rf
  have L20 : ∀ (n : Nat), ∀ (z1 : Int32) (z3 : Int32) (z4 : Int32) (σ : gS) (H : Heap) (locs : List Loc) (ls : Array Slot), fn_X3_block_L20 T n z1 z3 z4 σ = some y → va_P (dC, dI) vwCl (wB h k T σ) H → va_D A (wB h k T σ) → va_S A s.heap H locs → lv_has ls 5 [(0, .ref (h 0)), (1, .int z1), (3, .int z3), (4, .int z4)] → W p l e ({ frames := 1, cells := 0, slots := 0, locals := 21 }) s m ([.ref (h 0), .int x1, .int x2] : List Value).toArray below meth c H locs 0 0 (MQ below (va_Qi (fun r u => (r, u) = y) (uAt (dC, dI) vwCl (tB k) (wB h k T) A) A) ([.ref (h 0), .int x1, .int x2] : List Value).toArray s 0 0 A) (F0 m 20 ls []) := by
    intro n
    induction n with
    | zero => intro z1 z3 z4 σ H locs ls hf; exact absurd hf (by rw [fn_X3_block_L20]; exact nofun)
    | succ n ih =>
      intro z1 z3 z4 σ H locs ls hf hP hD hS hl
      rw [fn_X3_block_L20] at hf
      refine lv_iload hx hb dX3_block_20 (lv_at hl 3 rfl) ?_
      refine lv_aload_n hx hb dX3_block_22 rfl (lv_at hl 0 rfl) ?_
      refine va_get (D := (dC, dI)) (ci := 3) (v := .ref (h 9)) (C := RX3) (T := TX3) (N := 11) hx hb hts inG_X3 hown hK hP 0 rfl rfl 9 (by decide) (hts _ mg_374) (fun _ h9 => h9) rfl dX3_block_23 ?_
      refine lv_iload_n hx hb dX3_block_26 rfl (lv_at hl 1 rfl) ?_
      obtain ⟨hin, hf⟩ := gs_gd_e hf
      refine va_iald hx hb hK hP 9 8 rfl rfl hin dX3_block_27 ?_
      refine lv_icmp_ge (tgt := 80) hx hb dX3_block_28 (by decide) (fun hq => ?_) (fun hq => ?_)
      · have hf := gs_t hf hq
        refine lv_iconst (v := (-1)) hx hb dX3_block_80 (by decide) ?_
        exact W.iret (v := (-1)) hx hb hr (fun t ht hW => u_ri (Option.some.inj hf) ht hW hP hK hD hS) hS.2.2 dX3_block_81
      · have hf := gs_f hf hq
        refine lv_iload_n hx hb dX3_block_31 rfl (lv_at hl 2 rfl) ?_
        refine lv_aload_n hx hb dX3_block_32 rfl (lv_at hl 0 rfl) ?_
        refine va_get (D := (dC, dI)) (ci := 3) (v := .ref (h 8)) (C := RX3) (T := TX3) (N := 11) hx hb hts inG_X3 hown hK hP 0 rfl rfl 8 (by decide) (hts _ mg_373) (fun _ h9 => h9) rfl dX3_block_33 ?_
        refine lv_iconst (v := 3) hx hb dX3_block_36 (by decide) ?_
        refine lv_iload_n hx hb dX3_block_37 rfl (lv_at hl 1 rfl) ?_
        refine lv_imul hx hb dX3_block_38 ?_
        refine lv_iload hx hb dX3_block_39 (lv_at hl 3 rfl) ?_
        refine lv_iadd hx hb dX3_block_41 ?_
        obtain ⟨hin, hf⟩ := gs_gd_e hf
        refine va_iald hx hb hK hP 8 7 rfl rfl hin dX3_block_42 ?_
        refine lv_icmp_ge (tgt := 60) hx hb dX3_block_43 (by decide) (fun hq => ?_) (fun hq => ?_)
        · have hf := gs_t hf hq
          refine lv_iload_n hx hb dX3_block_60 rfl (lv_at hl 2 rfl) ?_
          refine lv_aload_n hx hb dX3_block_61 rfl (lv_at hl 0 rfl) ?_
          refine va_get (D := (dC, dI)) (ci := 3) (v := .ref (h 8)) (C := RX3) (T := TX3) (N := 11) hx hb hts inG_X3 hown hK hP 0 rfl rfl 8 (by decide) (hts _ mg_373) (fun _ h9 => h9) rfl dX3_block_62 ?_
          refine lv_iconst (v := 3) hx hb dX3_block_65 (by decide) ?_
          refine lv_iload_n hx hb dX3_block_66 rfl (lv_at hl 1 rfl) ?_
          refine lv_imul hx hb dX3_block_67 ?_
          refine lv_iload hx hb dX3_block_68 (lv_at hl 3 rfl) ?_
          refine lv_iadd hx hb dX3_block_70 ?_
          obtain ⟨hin, hf⟩ := gs_gd_e hf
          refine va_iald hx hb hK hP 8 7 rfl rfl hin dX3_block_71 ?_
          refine lv_isub hx hb dX3_block_72 ?_
          refine lv_istore_n (lv' := [(3, .int (z3 - (σ 8 ((3 * z1) + z4).toNatClampNeg))), (0, .ref (h 0)), (1, .int z1), (4, .int z4)]) hx hb dX3_block_73 rfl hl (by decide) rfl (fun ls hl => ?_)
          refine lv_iinc (v := z4 + 1) (lv' := [(4, .int (z4 + 1)), (3, .int (z3 - (σ 8 ((3 * z1) + z4).toNatClampNeg))), (0, .ref (h 0)), (1, .int z1)]) hx hb dX3_block_74 hl (k := 3) rfl rfl (by decide) rfl (fun ls hl => ?_)
          refine lv_goto (tgt := 20) hx hb dX3_block_77 (by decide) ?_
          exact ih z1 (z3 - (σ 8 ((3 * z1) + z4).toNatClampNeg)) (z4 + 1) σ _ _ _ hf hP hD hS (lv_sub hl [2, 3, 1, 0] rfl)
        · have hf := gs_f hf hq
          refine lv_aload_n hx hb dX3_block_46 rfl (lv_at hl 0 rfl) ?_
          refine va_get (D := (dC, dI)) (ci := 3) (v := .ref (h 7)) (C := RX3) (T := TX3) (N := 11) hx hb hts inG_X3 hown hK hP 0 rfl rfl 7 (by decide) (hts _ mg_372) (fun _ h9 => h9) rfl dX3_block_47 ?_
          refine lv_iconst (v := 3) hx hb dX3_block_50 (by decide) ?_
          refine lv_iload_n hx hb dX3_block_51 rfl (lv_at hl 1 rfl) ?_
          refine lv_imul hx hb dX3_block_52 ?_
          refine lv_iload hx hb dX3_block_53 (lv_at hl 3 rfl) ?_
          refine lv_iadd hx hb dX3_block_55 ?_
          obtain ⟨hin, hf⟩ := gs_gd_e hf
          refine va_iald hx hb hK hP 7 6 rfl rfl hin dX3_block_56 ?_
          refine lv_iload_n hx hb dX3_block_57 rfl (lv_at hl 2 rfl) ?_
          refine lv_iadd hx hb dX3_block_58 ?_
          exact W.iret (v := (σ 7 ((3 * z1) + z4).toNatClampNeg) + z3) hx hb hr (fun t ht hW => u_ri (Option.some.inj hf) ht hW hP hK hD hS) hS.2.2 dX3_block_59
  have hl := lv_entry ([.ref (h 0), .int x1, .int x2]) (n := 5) (Nat.le_of_ble_eq_true rfl)
  rw [lg_entry_eq]
  generalize (lg_sl ([.ref (h 0), .int x1, .int x2]) ++ List.replicate (5 - (lg_sl ([.ref (h 0), .int x1, .int x2])).length) Slot.unset).toArray = ls at hl ⊢
  have hl : lv_has ls 5 [(0, .ref (h 0)), (1, .int x1), (2, .int x2)] := hl
  rw [fn_X3_block] at hf
  refine lv_iload_n hx hb dX3_block_0 rfl (lv_at hl 1 rfl) ?_
  refine lv_bipush (v := 8) hx hb dX3_block_1 (by decide) ?_
  obtain ⟨r1, σ2, hc, hf⟩ := gs_ob_e hf
  have hF := u_free hD hS hA
  refine u_calli (va_runS (As := [.int x1, .int 8]) (rest := []) ⟨hx, hb, hml, hown, hts⟩ (ct_X3_in l dC dI h k T σ s.heap.size x1 8 _ hc) (va_cwS 2 hts (gd_S mg_380 mg_381 mg_36 mg_382) rfl rfl rfl (by decide +kernel) ⟨Nat.le_of_ble_eq_true rfl, Nat.le_of_ble_eq_true rfl⟩) (u_preS zB_g hK hP hD hS hF hZ) rfl rfl hl.1 rfl (lv_room (Nat.le_of_ble_eq_true rfl)) dX3_block_3 ⟨Nat.le_refl _, Nat.le_refl _⟩) hS hF (fun H locs hP hD hS => ?_)
  refine lv_if_eq (tgt := 13) hx hb dX3_block_6 (by decide) (fun hq => ?_) (fun hq => ?_)
  · have hf := gs_t hf hq
    refine lv_iconst (v := (-1)) hx hb dX3_block_13 (by decide) ?_
    exact W.iret (v := (-1)) hx hb hr (fun t ht hW => u_ri (Option.some.inj hf) ht hW hP hK hD hS) hS.2.2 dX3_block_14
  · have hf := gs_f hf hq
    refine lv_iload_n hx hb dX3_block_9 rfl (lv_at hl 2 rfl) ?_
    refine lv_if_ge (tgt := 15) hx hb dX3_block_10 (by decide) (fun hq => ?_) (fun hq => ?_)
    · have hf := gs_t hf hq
      refine lv_iload_n hx hb dX3_block_15 rfl (lv_at hl 2 rfl) ?_
      refine lv_istore_n (lv' := [(3, .int x2), (0, .ref (h 0)), (1, .int x1), (2, .int x2)]) hx hb dX3_block_16 rfl hl (by decide) rfl (fun ls hl => ?_)
      refine lv_iconst (v := 0) hx hb dX3_block_17 (by decide) ?_
      refine lv_istore (lv' := [(4, .int 0), (3, .int x2), (0, .ref (h 0)), (1, .int x1), (2, .int x2)]) hx hb dX3_block_18 hl (by decide) rfl (fun ls hl => ?_)
      exact L20 gs_fu x1 x2 0 σ2 _ _ _ hf hP hD hS (lv_sub hl [2, 3, 1, 0] rfl)
    · have hf := gs_f hf hq
      refine lv_iconst (v := (-1)) hx hb dX3_block_13 (by decide) ?_
      exact W.iret (v := (-1)) hx hb hr (fun t ht hW => u_ri (Option.some.inj hf) ht hW hP hK hD hS) hS.2.2 dX3_block_14
set_option maxHeartbeats 4000000 in
set_option maxRecDepth 100000 in
theorem ct_X3_wrong (l : Launch) (dC : Nat → ClassId) (dI : Nat → Nat → Nat) (h : Nat → Nat) (k : Nat → ClassId) (T : Nat) (σ : gS) (sz : Nat) (x1 : Int32) (y : Int32 × gS) (hf : fn_X3_wrong T x1 σ = some y) : Met l yX3_wrong wsX3_wrong ({ frames := 0, cells := 0, slots := 0, locals := 0 }) (va_Pc [.ref (h 0), .int x1] (uPre (dC, dI) vwCl (tB k) (wB h k T) zB σ sz)) (va_Qi (fun r u => (r, u) = y) (uAt (dC, dI) vwCl (tB k) (wB h k T) (va_A (wB h k T σ) sz)) (va_A (wB h k T σ) sz)) 0 0 (va_A (wB h k T σ) sz) := by
  refine Met.ofW (cc := cX3_wrong) (maxL := 2) (ret := (some .boolean)) (by decide) rfl ?_
  intro p e s m args below meth c s₁ B hml hv
  obtain ⟨rfl, hsz, hP, hK, hD0, hZ⟩ := hv
  have hx := B.exec
  have hb := B.bytes
  have hr := B.returns
  have hts : ∀ w ∈ gG, w.before _ s = true := fun w h => atoms_spec (ws := wsX3_wrong) B.pre w (List.mem_cons_of_mem _ h)
  have hown : s.vm.findClass RX3 = some m.cls := findClass_of_methodNamed B.named
  have hlocks := B.notSynchronized
  subst hsz
  have hD := hD0.self (sz := s.heap.size)
  generalize hAe : va_A (wB h k T σ) s.heap.size = A at hD hZ ⊢
  have hA : ∀ q : Nat, s.heap.size ≤ q → A q := fun q h => by rw [← hAe]; exact Or.inr h
  have hS : va_S A s.heap s.heap [] := va_S.rf
  have hl := lv_entry ([.ref (h 0), .int x1]) (n := 2) (Nat.le_of_ble_eq_true rfl)
  rw [lg_entry_eq]
  generalize (lg_sl ([.ref (h 0), .int x1]) ++ List.replicate (2 - (lg_sl ([.ref (h 0), .int x1])).length) Slot.unset).toArray = ls at hl ⊢
  have hl : lv_has ls 2 [(0, .ref (h 0)), (1, .int x1)] := hl
  rw [fn_X3_wrong] at hf
  refine lv_aload_n hx hb dX3_wrong_0 rfl (lv_at hl 0 rfl) ?_
  refine va_get (D := (dC, dI)) (ci := 3) (v := .ref (h 3)) (C := RX3) (T := TX3) (N := 11) hx hb hts inG_X3 hown hK hP 0 rfl rfl 3 (by decide) (hts _ mg_368) (fun _ h9 => h9) rfl dX3_wrong_1 ?_
  refine lv_iload_n hx hb dX3_wrong_4 rfl (lv_at hl 1 rfl) ?_
  obtain ⟨hin, hf⟩ := gs_gd_e hf
  refine va_zald hx hb hK hP 3 2 rfl rfl hin dX3_wrong_5 ?_
  refine lv_if_ne (tgt := 28) hx hb dX3_wrong_6 (by decide) (fun hq => ?_) (fun hq => ?_)
  · have hf := gs_f hf hq
    refine lv_iconst (v := 0) hx hb dX3_wrong_28 (by decide) ?_
    exact W.zret (v := 0) (ty := .boolean) hx hb hr rfl (fun t ht hW => u_ri (Option.some.inj hf) ht hW hP hK hD hS) hS.2.2 dX3_wrong_29
  · have hf := gs_t hf hq
    refine lv_aload_n hx hb dX3_wrong_9 rfl (lv_at hl 0 rfl) ?_
    refine va_get (D := (dC, dI)) (ci := 3) (v := .ref (h 2)) (C := RX3) (T := TX3) (N := 11) hx hb hts inG_X3 hown hK hP 0 rfl rfl 2 (by decide) (hts _ mg_367) (fun _ h9 => h9) rfl dX3_wrong_10 ?_
    refine lv_iload_n hx hb dX3_wrong_13 rfl (lv_at hl 1 rfl) ?_
    obtain ⟨hin, hf⟩ := gs_gd_e hf
    refine va_iald hx hb hK hP 2 1 rfl rfl hin dX3_wrong_14 ?_
    refine lv_aload_n hx hb dX3_wrong_15 rfl (lv_at hl 0 rfl) ?_
    refine va_get (D := (dC, dI)) (ci := 3) (v := .ref (h 1)) (C := RX3) (T := TX3) (N := 11) hx hb hts inG_X3 hown hK hP 0 rfl rfl 1 (by decide) (hts _ mg_366) (fun _ h9 => h9) rfl dX3_wrong_16 ?_
    refine lv_iload_n hx hb dX3_wrong_19 rfl (lv_at hl 1 rfl) ?_
    obtain ⟨hin, hf⟩ := gs_gd_e hf
    refine va_iald hx hb hK hP 1 0 rfl rfl hin dX3_wrong_20 ?_
    refine lv_icmp_eq (tgt := 28) hx hb dX3_wrong_21 (by decide) (fun hq => ?_) (fun hq => ?_)
    · have hf := gs_t hf hq
      refine lv_iconst (v := 0) hx hb dX3_wrong_28 (by decide) ?_
      exact W.zret (v := 0) (ty := .boolean) hx hb hr rfl (fun t ht hW => u_ri (Option.some.inj hf) ht hW hP hK hD hS) hS.2.2 dX3_wrong_29
    · have hf := gs_f hf hq
      refine lv_iconst (v := 1) hx hb dX3_wrong_24 (by decide) ?_
      refine lv_goto (tgt := 29) hx hb dX3_wrong_25 (by decide) ?_
      exact W.zret (v := 1) (ty := .boolean) hx hb hr rfl (fun t ht hW => u_ri (Option.some.inj hf) ht hW hP hK hD hS) hS.2.2 dX3_wrong_29
