set_option maxHeartbeats 4000000 in
set_option maxRecDepth 100000 in
theorem ct_X2_isFile (l : Launch) (dC : Nat → ClassId) (dI : Nat → Nat → Nat) (h : Nat → Nat) (k : Nat → ClassId) (T : Nat) (σ : gS) (sz : Nat) (x0 : Int32) (y : Int32 × gS) (hf : fn_X2_isFile T x0 σ = some y) : Met l yX2_isFile wsX2_isFile ({ frames := 0, cells := 0, slots := 0, locals := 0 }) (va_Pc [.int x0] (uPre (dC, dI) vwCl (tA k) (wA h k T) zA σ sz)) (va_Qi (fun r u => (r, u) = y) (uAt (dC, dI) vwCl (tA k) (wA h k T) (va_A (wA h k T σ) sz)) (va_A (wA h k T σ) sz)) 0 0 (va_A (wA h k T σ) sz) := by
  refine Met.ofW (cc := cX2_isFile) (maxL := 1) (ret := (some .boolean)) (by decide) rfl ?_
  intro p e s m args below meth c s₁ B hml hv
  obtain ⟨rfl, hsz, hP, hK, hD0, hZ⟩ := hv
  have hx := B.exec
  have hb := B.bytes
  have hr := B.returns
  have hts : ∀ w ∈ gG, w.before _ s = true := fun w h => atoms_spec (ws := wsX2_isFile) B.pre w (List.mem_cons_of_mem _ h)
  have hown : s.vm.findClass RX2 = some m.cls := findClass_of_methodNamed B.named
  have hlocks := B.notSynchronized
  subst hsz
  have hD := hD0.self (sz := s.heap.size)
  generalize hAe : va_A (wA h k T σ) s.heap.size = A at hD hZ ⊢
  have hA : ∀ q : Nat, s.heap.size ≤ q → A q := fun q h => by rw [← hAe]; exact Or.inr h
  have hS : va_S A s.heap s.heap [] := va_S.rf
  obtain ⟨t0, hZ0, hT0, hN0⟩ := id hZ
  have hl := lv_entry ([.int x0]) (n := 1) (Nat.le_of_ble_eq_true rfl)
  rw [lg_entry_eq]
  generalize (lg_sl ([.int x0]) ++ List.replicate (1 - (lg_sl ([.int x0])).length) Slot.unset).toArray = ls at hl ⊢
  have hl : lv_has ls 1 [(0, .int x0)] := hl
  rw [fn_X2_isFile] at hf
  refine lv_iload_n hx hb dX2_isFile_0 rfl (lv_at hl 0 rfl) ?_
  refine lv_if_lt (tgt := 14) hx hb dX2_isFile_1 (by decide) (fun hq => ?_) (fun hq => ?_)
  · have hf := gs_t hf hq
    refine lv_iconst (v := 0) hx hb dX2_isFile_14 (by decide) ?_
    exact W.zret (v := 0) (ty := .boolean) hx hb hr rfl (fun t ht hW => u_ri (Option.some.inj hf) ht hW hP hK hD hS) hS.2.2 dX2_isFile_15
  · have hf := gs_f hf hq
    refine lv_iload_n hx hb dX2_isFile_4 rfl (lv_at hl 0 rfl) ?_
    refine lv_bipush (v := 8) hx hb dX2_isFile_5 (by decide) ?_
    refine lv_icmp_ge (tgt := 14) hx hb dX2_isFile_7 (by decide) (fun hq => ?_) (fun hq => ?_)
    · have hf := gs_t hf hq
      refine lv_iconst (v := 0) hx hb dX2_isFile_14 (by decide) ?_
      exact W.zret (v := 0) (ty := .boolean) hx hb hr rfl (fun t ht hW => u_ri (Option.some.inj hf) ht hW hP hK hD hS) hS.2.2 dX2_isFile_15
    · have hf := gs_f hf hq
      refine lv_iconst (v := 1) hx hb dX2_isFile_10 (by decide) ?_
      refine lv_goto (tgt := 15) hx hb dX2_isFile_11 (by decide) ?_
      exact W.zret (v := 1) (ty := .boolean) hx hb hr rfl (fun t ht hW => u_ri (Option.some.inj hf) ht hW hP hK hD hS) hS.2.2 dX2_isFile_15
set_option maxHeartbeats 4000000 in
set_option maxRecDepth 100000 in
theorem ct_X0_isThere (l : Launch) (dC : Nat → ClassId) (dI : Nat → Nat → Nat) (h : Nat → Nat) (k : Nat → ClassId) (T : Nat) (σ : gS) (sz : Nat) (x1 : Int32) (y : Int32 × gS) (hf : fn_X0_isThere T x1 σ = some y) : Met l yX0_isThere wsX0_isThere ({ frames := 0, cells := 0, slots := 0, locals := 0 }) (va_Pc [.ref (h 7), .int x1] (uPre (dC, dI) vwCl (tA k) (wA h k T) zA σ sz)) (va_Qi (fun r u => (r, u) = y) (uAt (dC, dI) vwCl (tA k) (wA h k T) (va_A (wA h k T σ) sz)) (va_A (wA h k T σ) sz)) 0 0 (va_A (wA h k T σ) sz) := by
  refine Met.ofW (cc := cX0_isThere) (maxL := 2) (ret := (some .boolean)) (by decide) rfl ?_
  intro p e s m args below meth c s₁ B hml hv
  obtain ⟨rfl, hsz, hP, hK, hD0, hZ⟩ := hv
  have hx := B.exec
  have hb := B.bytes
  have hr := B.returns
  have hts : ∀ w ∈ gG, w.before _ s = true := fun w h => atoms_spec (ws := wsX0_isThere) B.pre w (List.mem_cons_of_mem _ h)
  have hown : s.vm.findClass RX0 = some m.cls := findClass_of_methodNamed B.named
  have hlocks := B.notSynchronized
  subst hsz
  have hD := hD0.self (sz := s.heap.size)
  generalize hAe : va_A (wA h k T σ) s.heap.size = A at hD hZ ⊢
  have hA : ∀ q : Nat, s.heap.size ≤ q → A q := fun q h => by rw [← hAe]; exact Or.inr h
  have hS : va_S A s.heap s.heap [] := va_S.rf
  obtain ⟨t0, hZ0, hT0, hN0⟩ := id hZ
  have hl := lv_entry ([.ref (h 7), .int x1]) (n := 2) (Nat.le_of_ble_eq_true rfl)
  rw [lg_entry_eq]
  generalize (lg_sl ([.ref (h 7), .int x1]) ++ List.replicate (2 - (lg_sl ([.ref (h 7), .int x1])).length) Slot.unset).toArray = ls at hl ⊢
  have hl : lv_has ls 2 [(0, .ref (h 7)), (1, .int x1)] := hl
  rw [fn_X0_isThere] at hf
  refine lv_aload_n hx hb dX0_isThere_0 rfl (lv_at hl 0 rfl) ?_
  refine va_get (D := (dC, dI)) (ci := 0) (v := .ref (h 9)) (C := RX0) (T := TX0) (N := 5) hx hb hts inG_X0 hown hK hP 7 rfl rfl 1 (by decide) (hts _ mg_73) (fun _ h9 => h9) rfl dX0_isThere_1 ?_
  refine lv_iload_n hx hb dX0_isThere_4 rfl (lv_at hl 1 rfl) ?_
  obtain ⟨hin, hf⟩ := gs_gd_e hf
  refine va_iald hx hb hK hP 9 6 rfl rfl hin dX0_isThere_5 ?_
  refine lv_if_le (tgt := 13) hx hb dX0_isThere_6 (by decide) (fun hq => ?_) (fun hq => ?_)
  · have hf := gs_t hf hq
    refine lv_iconst (v := 0) hx hb dX0_isThere_13 (by decide) ?_
    exact W.zret (v := 0) (ty := .boolean) hx hb hr rfl (fun t ht hW => u_ri (Option.some.inj hf) ht hW hP hK hD hS) hS.2.2 dX0_isThere_14
  · have hf := gs_f hf hq
    refine lv_iconst (v := 1) hx hb dX0_isThere_9 (by decide) ?_
    refine lv_goto (tgt := 14) hx hb dX0_isThere_10 (by decide) ?_
    exact W.zret (v := 1) (ty := .boolean) hx hb hr rfl (fun t ht hW => u_ri (Option.some.inj hf) ht hW hP hK hD hS) hS.2.2 dX0_isThere_14
set_option maxHeartbeats 4000000 in
set_option maxRecDepth 100000 in
theorem ct_X0_startsRun (l : Launch) (dC : Nat → ClassId) (dI : Nat → Nat → Nat) (h : Nat → Nat) (k : Nat → ClassId) (T : Nat) (σ : gS) (sz : Nat) (x1 : Int32) (y : Int32 × gS) (hf : fn_X0_startsRun T x1 σ = some y) : Met l yX0_startsRun wsX0_startsRun ({ frames := 0, cells := 0, slots := 0, locals := 0 }) (va_Pc [.ref (h 7), .int x1] (uPre (dC, dI) vwCl (tA k) (wA h k T) zA σ sz)) (va_Qi (fun r u => (r, u) = y) (uAt (dC, dI) vwCl (tA k) (wA h k T) (va_A (wA h k T σ) sz)) (va_A (wA h k T σ) sz)) 0 0 (va_A (wA h k T σ) sz) := by
  refine Met.ofW (cc := cX0_startsRun) (maxL := 2) (ret := (some .boolean)) (by decide) rfl ?_
  intro p e s m args below meth c s₁ B hml hv
  obtain ⟨rfl, hsz, hP, hK, hD0, hZ⟩ := hv
  have hx := B.exec
  have hb := B.bytes
  have hr := B.returns
  have hts : ∀ w ∈ gG, w.before _ s = true := fun w h => atoms_spec (ws := wsX0_startsRun) B.pre w (List.mem_cons_of_mem _ h)
  have hown : s.vm.findClass RX0 = some m.cls := findClass_of_methodNamed B.named
  have hlocks := B.notSynchronized
  subst hsz
  have hD := hD0.self (sz := s.heap.size)
  generalize hAe : va_A (wA h k T σ) s.heap.size = A at hD hZ ⊢
  have hA : ∀ q : Nat, s.heap.size ≤ q → A q := fun q h => by rw [← hAe]; exact Or.inr h
  have hS : va_S A s.heap s.heap [] := va_S.rf
  obtain ⟨t0, hZ0, hT0, hN0⟩ := id hZ
  have hl := lv_entry ([.ref (h 7), .int x1]) (n := 2) (Nat.le_of_ble_eq_true rfl)
  rw [lg_entry_eq]
  generalize (lg_sl ([.ref (h 7), .int x1]) ++ List.replicate (2 - (lg_sl ([.ref (h 7), .int x1])).length) Slot.unset).toArray = ls at hl ⊢
  have hl : lv_has ls 2 [(0, .ref (h 7)), (1, .int x1)] := hl
  rw [fn_X0_startsRun] at hf
  refine lv_aload_n hx hb dX0_startsRun_0 rfl (lv_at hl 0 rfl) ?_
  refine va_get (D := (dC, dI)) (ci := 0) (v := .ref (h 8)) (C := RX0) (T := TX0) (N := 5) hx hb hts inG_X0 hown hK hP 7 rfl rfl 0 (by decide) (hts _ mg_72) (fun _ h9 => h9) rfl dX0_startsRun_1 ?_
  refine lv_iload_n hx hb dX0_startsRun_4 rfl (lv_at hl 1 rfl) ?_
  obtain ⟨hin, hf⟩ := gs_gd_e hf
  refine va_zald hx hb hK hP 8 5 rfl rfl hin dX0_startsRun_5 ?_
  refine lv_if_ne (tgt := 28) hx hb dX0_startsRun_6 (by decide) (fun hq => ?_) (fun hq => ?_)
  · have hf := gs_f hf hq
    refine lv_iconst (v := 0) hx hb dX0_startsRun_28 (by decide) ?_
    exact W.zret (v := 0) (ty := .boolean) hx hb hr rfl (fun t ht hW => u_ri (Option.some.inj hf) ht hW hP hK hD hS) hS.2.2 dX0_startsRun_29
  · have hf := gs_t hf hq
    refine lv_iload_n hx hb dX0_startsRun_9 rfl (lv_at hl 1 rfl) ?_
    refine lv_if_eq (tgt := 24) hx hb dX0_startsRun_10 (by decide) (fun hq => ?_) (fun hq => ?_)
    · have hf := gs_t hf hq
      refine lv_iconst (v := 1) hx hb dX0_startsRun_24 (by decide) ?_
      refine lv_goto (tgt := 29) hx hb dX0_startsRun_25 (by decide) ?_
      exact W.zret (v := 1) (ty := .boolean) hx hb hr rfl (fun t ht hW => u_ri (Option.some.inj hf) ht hW hP hK hD hS) hS.2.2 dX0_startsRun_29
    · have hf := gs_f hf hq
      refine lv_aload_n hx hb dX0_startsRun_13 rfl (lv_at hl 0 rfl) ?_
      refine va_get (D := (dC, dI)) (ci := 0) (v := .ref (h 8)) (C := RX0) (T := TX0) (N := 5) hx hb hts inG_X0 hown hK hP 7 rfl rfl 0 (by decide) (hts _ mg_72) (fun _ h9 => h9) rfl dX0_startsRun_14 ?_
      refine lv_iload_n hx hb dX0_startsRun_17 rfl (lv_at hl 1 rfl) ?_
      refine lv_iconst (v := 1) hx hb dX0_startsRun_18 (by decide) ?_
      refine lv_isub hx hb dX0_startsRun_19 ?_
      obtain ⟨hin, hf⟩ := gs_gd_e hf
      refine va_zald hx hb hK hP 8 5 rfl rfl hin dX0_startsRun_20 ?_
      refine lv_if_eq (tgt := 28) hx hb dX0_startsRun_21 (by decide) (fun hq => ?_) (fun hq => ?_)
      · have hf := gs_t hf hq
        refine lv_iconst (v := 0) hx hb dX0_startsRun_28 (by decide) ?_
        exact W.zret (v := 0) (ty := .boolean) hx hb hr rfl (fun t ht hW => u_ri (Option.some.inj hf) ht hW hP hK hD hS) hS.2.2 dX0_startsRun_29
      · have hf := gs_f hf hq
        refine lv_iconst (v := 1) hx hb dX0_startsRun_24 (by decide) ?_
        refine lv_goto (tgt := 29) hx hb dX0_startsRun_25 (by decide) ?_
        exact W.zret (v := 1) (ty := .boolean) hx hb hr rfl (fun t ht hW => u_ri (Option.some.inj hf) ht hW hP hK hD hS) hS.2.2 dX0_startsRun_29
set_option maxHeartbeats 4000000 in
set_option maxRecDepth 100000 in
theorem ct_X0_runFrom (l : Launch) (dC : Nat → ClassId) (dI : Nat → Nat → Nat) (h : Nat → Nat) (k : Nat → ClassId) (T : Nat) (σ : gS) (sz : Nat) (x1 : Int32) (y : Int32 × gS) (hf : fn_X0_runFrom T x1 σ = some y) : Met l yX0_runFrom wsX0_runFrom ({ frames := 0, cells := 0, slots := 0, locals := 0 }) (va_Pc [.ref (h 7), .int x1] (uPre (dC, dI) vwCl (tA k) (wA h k T) zA σ sz)) (va_Qi (fun r u => (r, u) = y) (uAt (dC, dI) vwCl (tA k) (wA h k T) (va_A (wA h k T σ) sz)) (va_A (wA h k T σ) sz)) 0 0 (va_A (wA h k T σ) sz) := by
  refine Met.ofW (cc := cX0_runFrom) (maxL := 3) (ret := (some .int)) (by decide) rfl ?_
  intro p e s m args below meth c s₁ B hml hv
  obtain ⟨rfl, hsz, hP, hK, hD0, hZ⟩ := hv
  have hx := B.exec
  have hb := B.bytes
  have hr := B.returns
  have hts : ∀ w ∈ gG, w.before _ s = true := fun w h => atoms_spec (ws := wsX0_runFrom) B.pre w (List.mem_cons_of_mem _ h)
  have hown : s.vm.findClass RX0 = some m.cls := findClass_of_methodNamed B.named
  have hlocks := B.notSynchronized
  subst hsz
  have hD := hD0.self (sz := s.heap.size)
  generalize hAe : va_A (wA h k T σ) s.heap.size = A at hD hZ ⊢
  have hA : ∀ q : Nat, s.heap.size ≤ q → A q := fun q h => by rw [← hAe]; exact Or.inr h
  have hS : va_S A s.heap s.heap [] := va_S.rf
  obtain ⟨t0, hZ0, hT0, hN0⟩ := id hZ
  have L2 : ∀ (n : Nat), ∀ (z1 : Int32) (z2 : Int32) (σ : gS) (H : Heap) (locs : List Loc) (ls : Array Slot), fn_X0_runFrom_L2 T n z1 z2 σ = some y → va_P (dC, dI) vwCl (wA h k T σ) H → va_D A (wA h k T σ) → va_S A s.heap H locs → lv_has ls 3 [(0, .ref (h 7)), (1, .int z1), (2, .int z2)] → W p l e ({ frames := 0, cells := 0, slots := 0, locals := 0 }) s m ([.ref (h 7), .int x1] : List Value).toArray below meth c H locs 0 0 (MQ below (va_Qi (fun r u => (r, u) = y) (uAt (dC, dI) vwCl (tA k) (wA h k T) A) A) ([.ref (h 7), .int x1] : List Value).toArray s 0 0 A) (F0 m 2 ls []) := by
    intro n
    induction n with
    | zero => intro z1 z2 σ H locs ls hf; exact absurd hf (by rw [fn_X0_runFrom_L2]; exact nofun)
    | succ n ih =>
      intro z1 z2 σ H locs ls hf hP hD hS hl
      rw [fn_X0_runFrom_L2] at hf
      refine lv_iload_n hx hb dX0_runFrom_2 rfl (lv_at hl 2 rfl) ?_
      refine lv_aload_n hx hb dX0_runFrom_3 rfl (lv_at hl 0 rfl) ?_
      refine va_get (D := (dC, dI)) (ci := 0) (v := .ref (h 8)) (C := RX0) (T := TX0) (N := 5) hx hb hts inG_X0 hown hK hP 7 rfl rfl 0 (by decide) (hts _ mg_72) (fun _ h9 => h9) rfl dX0_runFrom_4 ?_
      refine va_alen (v := nI (3 * T)) hx hb hK hP 8 5 rfl rfl rfl dX0_runFrom_7 ?_
      refine lv_icmp_ge (tgt := 26) hx hb dX0_runFrom_8 (by decide) (fun hq => ?_) (fun hq => ?_)
      · have hf := gs_t hf hq
        refine lv_iload_n hx hb dX0_runFrom_26 rfl (lv_at hl 2 rfl) ?_
        refine lv_iload_n hx hb dX0_runFrom_27 rfl (lv_at hl 1 rfl) ?_
        refine lv_isub hx hb dX0_runFrom_28 ?_
        exact W.iret (v := z2 - z1) hx hb hr (fun t ht hW => u_ri (Option.some.inj hf) ht hW hP hK hD hS) hS.2.2 dX0_runFrom_29
      · have hf := gs_f hf hq
        refine lv_aload_n hx hb dX0_runFrom_11 rfl (lv_at hl 0 rfl) ?_
        refine va_get (D := (dC, dI)) (ci := 0) (v := .ref (h 8)) (C := RX0) (T := TX0) (N := 5) hx hb hts inG_X0 hown hK hP 7 rfl rfl 0 (by decide) (hts _ mg_72) (fun _ h9 => h9) rfl dX0_runFrom_12 ?_
        refine lv_iload_n hx hb dX0_runFrom_15 rfl (lv_at hl 2 rfl) ?_
        obtain ⟨hin, hf⟩ := gs_gd_e hf
        refine va_zald hx hb hK hP 8 5 rfl rfl hin dX0_runFrom_16 ?_
        refine lv_if_ne (tgt := 26) hx hb dX0_runFrom_17 (by decide) (fun hq => ?_) (fun hq => ?_)
        · have hf := gs_f hf hq
          refine lv_iload_n hx hb dX0_runFrom_26 rfl (lv_at hl 2 rfl) ?_
          refine lv_iload_n hx hb dX0_runFrom_27 rfl (lv_at hl 1 rfl) ?_
          refine lv_isub hx hb dX0_runFrom_28 ?_
          exact W.iret (v := z2 - z1) hx hb hr (fun t ht hW => u_ri (Option.some.inj hf) ht hW hP hK hD hS) hS.2.2 dX0_runFrom_29
        · have hf := gs_t hf hq
          refine lv_iinc (v := z2 + 1) (lv' := [(2, .int (z2 + 1)), (0, .ref (h 7)), (1, .int z1)]) hx hb dX0_runFrom_20 hl (k := 2) rfl rfl (by decide) rfl (fun ls hl => ?_)
          refine lv_goto (tgt := 2) hx hb dX0_runFrom_23 (by decide) ?_
          exact ih z1 (z2 + 1) σ _ _ _ hf hP hD hS (lv_sub hl [1, 2, 0] rfl)
  have hl := lv_entry ([.ref (h 7), .int x1]) (n := 3) (Nat.le_of_ble_eq_true rfl)
  rw [lg_entry_eq]
  generalize (lg_sl ([.ref (h 7), .int x1]) ++ List.replicate (3 - (lg_sl ([.ref (h 7), .int x1])).length) Slot.unset).toArray = ls at hl ⊢
  have hl : lv_has ls 3 [(0, .ref (h 7)), (1, .int x1)] := hl
  rw [fn_X0_runFrom] at hf
  refine lv_iload_n hx hb dX0_runFrom_0 rfl (lv_at hl 1 rfl) ?_
  refine lv_istore_n (lv' := [(2, .int x1), (0, .ref (h 7)), (1, .int x1)]) hx hb dX0_runFrom_1 rfl hl (by decide) rfl (fun ls hl => ?_)
  exact L2 gs_fu x1 x1 σ _ _ _ hf hP hD hS (lv_sub hl [1, 2, 0] rfl)
set_option maxHeartbeats 4000000 in
set_option maxRecDepth 100000 in
theorem ct_X0_firstRunOf (l : Launch) (dC : Nat → ClassId) (dI : Nat → Nat → Nat) (h : Nat → Nat) (k : Nat → ClassId) (T : Nat) (σ : gS) (sz : Nat) (x1 : Int32) (y : Int32 × gS) (hf : fn_X0_firstRunOf T x1 σ = some y) : Met l yX0_firstRunOf wsX0_firstRunOf ({ frames := 1, cells := 0, slots := 0, locals := 22 }) (va_Pc [.ref (h 7), .int x1] (uPre (dC, dI) vwCl (tA k) (wA h k T) zA σ sz)) (va_Qi (fun r u => (r, u) = y) (uAt (dC, dI) vwCl (tA k) (wA h k T) (va_A (wA h k T σ) sz)) (va_A (wA h k T σ) sz)) 0 0 (va_A (wA h k T σ) sz) := by
  refine Met.ofW (cc := cX0_firstRunOf) (maxL := 3) (ret := (some .int)) (by decide) rfl ?_
  intro p e s m args below meth c s₁ B hml hv
  obtain ⟨rfl, hsz, hP, hK, hD0, hZ⟩ := hv
  have hx := B.exec
  have hb := B.bytes
  have hr := B.returns
  have hts : ∀ w ∈ gG, w.before _ s = true := fun w h => atoms_spec (ws := wsX0_firstRunOf) B.pre w (List.mem_cons_of_mem _ h)
  have hown : s.vm.findClass RX0 = some m.cls := findClass_of_methodNamed B.named
  have hlocks := B.notSynchronized
  subst hsz
  have hD := hD0.self (sz := s.heap.size)
  generalize hAe : va_A (wA h k T σ) s.heap.size = A at hD hZ ⊢
  have hA : ∀ q : Nat, s.heap.size ≤ q → A q := fun q h => by rw [← hAe]; exact Or.inr h
  have hS : va_S A s.heap s.heap [] := va_S.rf
  obtain ⟨t0, hZ0, hT0, hN0⟩ := id hZ
  have L2 : ∀ (n : Nat), ∀ (z1 : Int32) (z2 : Int32) (σ : gS) (H : Heap) (locs : List Loc) (ls : Array Slot), fn_X0_firstRunOf_L2 T n z1 z2 σ = some y → va_P (dC, dI) vwCl (wA h k T σ) H → va_D A (wA h k T σ) → va_S A s.heap H locs → lv_has ls 3 [(0, .ref (h 7)), (1, .int z1), (2, .int z2)] → W p l e ({ frames := 1, cells := 0, slots := 0, locals := 22 }) s m ([.ref (h 7), .int x1] : List Value).toArray below meth c H locs 0 0 (MQ below (va_Qi (fun r u => (r, u) = y) (uAt (dC, dI) vwCl (tA k) (wA h k T) A) A) ([.ref (h 7), .int x1] : List Value).toArray s 0 0 A) (F0 m 2 ls []) := by
    intro n
    induction n with
    | zero => intro z1 z2 σ H locs ls hf; exact absurd hf (by rw [fn_X0_firstRunOf_L2]; exact nofun)
    | succ n ih =>
      intro z1 z2 σ H locs ls hf hP hD hS hl
      rw [fn_X0_firstRunOf_L2] at hf
      refine lv_iload_n hx hb dX0_firstRunOf_2 rfl (lv_at hl 2 rfl) ?_
      refine lv_aload_n hx hb dX0_firstRunOf_3 rfl (lv_at hl 0 rfl) ?_
      refine va_get (D := (dC, dI)) (ci := 0) (v := .ref (h 8)) (C := RX0) (T := TX0) (N := 5) hx hb hts inG_X0 hown hK hP 7 rfl rfl 0 (by decide) (hts _ mg_72) (fun _ h9 => h9) rfl dX0_firstRunOf_4 ?_
      refine va_alen (v := nI (3 * T)) hx hb hK hP 8 5 rfl rfl rfl dX0_firstRunOf_7 ?_
      refine lv_icmp_ge (tgt := 36) hx hb dX0_firstRunOf_8 (by decide) (fun hq => ?_) (fun hq => ?_)
      · have hf := gs_t hf hq
        refine lv_iconst (v := (-1)) hx hb dX0_firstRunOf_36 (by decide) ?_
        exact W.iret (v := (-1)) hx hb hr (fun t ht hW => u_ri (Option.some.inj hf) ht hW hP hK hD hS) hS.2.2 dX0_firstRunOf_37
      · have hf := gs_f hf hq
        refine lv_aload_n hx hb dX0_firstRunOf_11 rfl (lv_at hl 0 rfl) ?_
        refine lv_iload_n hx hb dX0_firstRunOf_12 rfl (lv_at hl 2 rfl) ?_
        obtain ⟨r1, σ2, hc, hf⟩ := gs_ob_e hf
        have hF := u_free hD hS hA
        refine u_calli (va_runV (As := [.int z2]) (rest := []) ⟨hx, hb, hml, hown, hts⟩ (ct_X0_startsRun l dC dI h k T σ H.size z2 _ hc) (cwV 1 hts (gd_V mg_97 mg_98 mg_1 mg_35 mg_99) rfl rfl rfl (by decide +kernel) ⟨Nat.le_of_ble_eq_true rfl, Nat.le_of_ble_eq_true rfl⟩) (u_preV zA_g hK hP hD hS hF hZ (va_recv hK hP (ci := 0) (q0 := 7) rfl rfl)) rfl rfl hl.1 rfl (lv_room (Nat.le_of_ble_eq_true rfl)) dX0_firstRunOf_13 ⟨Nat.le_refl _, Nat.le_refl _⟩) hS hF (fun H locs hP hD hS => ?_)
        refine lv_if_eq (tgt := 30) hx hb dX0_firstRunOf_16 (by decide) (fun hq => ?_) (fun hq => ?_)
        · have hf := gs_t hf hq
          refine lv_iinc (v := z2 + 1) (lv' := [(2, .int (z2 + 1)), (0, .ref (h 7)), (1, .int z1)]) hx hb dX0_firstRunOf_30 hl (k := 2) rfl rfl (by decide) rfl (fun ls hl => ?_)
          refine lv_goto (tgt := 2) hx hb dX0_firstRunOf_33 (by decide) ?_
          exact ih z1 (z2 + 1) σ2 _ _ _ hf hP hD hS (lv_sub hl [1, 2, 0] rfl)
        · have hf := gs_f hf hq
          refine lv_aload_n hx hb dX0_firstRunOf_19 rfl (lv_at hl 0 rfl) ?_
          refine lv_iload_n hx hb dX0_firstRunOf_20 rfl (lv_at hl 2 rfl) ?_
          obtain ⟨r3, σ4, hc, hf⟩ := gs_ob_e hf
          have hF := u_free hD hS hA
          refine u_calli (va_runV (As := [.int z2]) (rest := []) ⟨hx, hb, hml, hown, hts⟩ (ct_X0_runFrom l dC dI h k T σ2 H.size z2 _ hc) (cwV 1 hts (gd_V mg_100 mg_101 mg_2 mg_35 mg_102) rfl rfl rfl (by decide +kernel) ⟨Nat.le_of_ble_eq_true rfl, Nat.le_of_ble_eq_true rfl⟩) (u_preV zA_g hK hP hD hS hF hZ (va_recv hK hP (ci := 0) (q0 := 7) rfl rfl)) rfl rfl hl.1 rfl (lv_room (Nat.le_of_ble_eq_true rfl)) dX0_firstRunOf_21 ⟨Nat.le_refl _, Nat.le_refl _⟩) hS hF (fun H locs hP hD hS => ?_)
          refine lv_iload_n hx hb dX0_firstRunOf_24 rfl (lv_at hl 1 rfl) ?_
          refine lv_icmp_lt (tgt := 30) hx hb dX0_firstRunOf_25 (by decide) (fun hq => ?_) (fun hq => ?_)
          · have hf := gs_t hf hq
            refine lv_iinc (v := z2 + 1) (lv' := [(2, .int (z2 + 1)), (0, .ref (h 7)), (1, .int z1)]) hx hb dX0_firstRunOf_30 hl (k := 2) rfl rfl (by decide) rfl (fun ls hl => ?_)
            refine lv_goto (tgt := 2) hx hb dX0_firstRunOf_33 (by decide) ?_
            exact ih z1 (z2 + 1) σ4 _ _ _ hf hP hD hS (lv_sub hl [1, 2, 0] rfl)
          · have hf := gs_f hf hq
            refine lv_iload_n hx hb dX0_firstRunOf_28 rfl (lv_at hl 2 rfl) ?_
            exact W.iret (v := z2) hx hb hr (fun t ht hW => u_ri (Option.some.inj hf) ht hW hP hK hD hS) hS.2.2 dX0_firstRunOf_29
  have hl := lv_entry ([.ref (h 7), .int x1]) (n := 3) (Nat.le_of_ble_eq_true rfl)
  rw [lg_entry_eq]
  generalize (lg_sl ([.ref (h 7), .int x1]) ++ List.replicate (3 - (lg_sl ([.ref (h 7), .int x1])).length) Slot.unset).toArray = ls at hl ⊢
  have hl : lv_has ls 3 [(0, .ref (h 7)), (1, .int x1)] := hl
  rw [fn_X0_firstRunOf] at hf
  refine lv_iconst (v := 0) hx hb dX0_firstRunOf_0 (by decide) ?_
  refine lv_istore_n (lv' := [(2, .int 0), (0, .ref (h 7)), (1, .int x1)]) hx hb dX0_firstRunOf_1 rfl hl (by decide) rfl (fun ls hl => ?_)
  exact L2 gs_fu x1 0 σ _ _ _ hf hP hD hS (lv_sub hl [1, 2, 0] rfl)
set_option maxHeartbeats 4000000 in
set_option maxRecDepth 100000 in
theorem ct_X0_mark (l : Launch) (dC : Nat → ClassId) (dI : Nat → Nat → Nat) (h : Nat → Nat) (k : Nat → ClassId) (T : Nat) (σ : gS) (sz : Nat) (x1 : Int32) (x2 : Int32) (x3 : Int32) (y : Int32 × gS) (hf : fn_X0_mark T x1 x2 x3 σ = some y) : Met l yX0_mark wsX0_mark ({ frames := 0, cells := 0, slots := 0, locals := 0 }) (va_Pc [.ref (h 7), .int x1, .int x2, .int x3] (uPre (dC, dI) vwCl (tA k) (wA h k T) zA σ sz)) (va_Qv (fun u => u = y.2) (uAt (dC, dI) vwCl (tA k) (wA h k T) (va_A (wA h k T σ) sz)) (va_A (wA h k T σ) sz)) 0 0 (va_A (wA h k T σ) sz) := by
  refine Met.ofW (cc := cX0_mark) (maxL := 5) (ret := none) (by decide) rfl ?_
  intro p e s m args below meth c s₁ B hml hv
  obtain ⟨rfl, hsz, hP, hK, hD0, hZ⟩ := hv
  have hx := B.exec
  have hb := B.bytes
  have hr := B.returns
  have hts : ∀ w ∈ gG, w.before _ s = true := fun w h => atoms_spec (ws := wsX0_mark) B.pre w (List.mem_cons_of_mem _ h)
  have hown : s.vm.findClass RX0 = some m.cls := findClass_of_methodNamed B.named
  have hlocks := B.notSynchronized
  subst hsz
  have hD := hD0.self (sz := s.heap.size)
  generalize hAe : va_A (wA h k T σ) s.heap.size = A at hD hZ ⊢
  have hA : ∀ q : Nat, s.heap.size ≤ q → A q := fun q h => by rw [← hAe]; exact Or.inr h
  have hS : va_S A s.heap s.heap [] := va_S.rf
  obtain ⟨t0, hZ0, hT0, hN0⟩ := id hZ
  have L3 : ∀ (n : Nat), ∀ (z1 : Int32) (z2 : Int32) (z3 : Int32) (z4 : Int32) (σ : gS) (H : Heap) (locs : List Loc) (ls : Array Slot), fn_X0_mark_L3 T n z1 z2 z3 z4 σ = some y → va_P (dC, dI) vwCl (wA h k T σ) H → va_D A (wA h k T σ) → va_S A s.heap H locs → lv_has ls 5 [(0, .ref (h 7)), (1, .int z1), (2, .int z2), (3, .int z3), (4, .int z4)] → W p l e ({ frames := 0, cells := 0, slots := 0, locals := 0 }) s m ([.ref (h 7), .int x1, .int x2, .int x3] : List Value).toArray below meth c H locs 0 0 (MQ below (va_Qv (fun u => u = y.2) (uAt (dC, dI) vwCl (tA k) (wA h k T) A) A) ([.ref (h 7), .int x1, .int x2, .int x3] : List Value).toArray s 0 0 A) (F0 m 3 ls []) := by
    intro n
    induction n with
    | zero => intro z1 z2 z3 z4 σ H locs ls hf; exact absurd hf (by rw [fn_X0_mark_L3]; exact nofun)
    | succ n ih =>
      intro z1 z2 z3 z4 σ H locs ls hf hP hD hS hl
      rw [fn_X0_mark_L3] at hf
      refine lv_iload hx hb dX0_mark_3 (lv_at hl 4 rfl) ?_
      refine lv_iload_n hx hb dX0_mark_5 rfl (lv_at hl 1 rfl) ?_
      refine lv_iload_n hx hb dX0_mark_6 rfl (lv_at hl 2 rfl) ?_
      refine lv_iadd hx hb dX0_mark_7 ?_
      refine lv_icmp_ge (tgt := 25) hx hb dX0_mark_8 (by decide) (fun hq => ?_) (fun hq => ?_)
      · have hf := gs_t hf hq
        exact W.vret hx hb hr (fun t ht hW => u_rv (Option.some.inj hf) ht hW hP hK hD hS) hS.2.2 dX0_mark_25
      · have hf := gs_f hf hq
        refine lv_aload_n hx hb dX0_mark_11 rfl (lv_at hl 0 rfl) ?_
        refine va_get (D := (dC, dI)) (ci := 0) (v := .ref (h 8)) (C := RX0) (T := TX0) (N := 5) hx hb hts inG_X0 hown hK hP 7 rfl rfl 0 (by decide) (hts _ mg_72) (fun _ h9 => h9) rfl dX0_mark_12 ?_
        refine lv_iload hx hb dX0_mark_15 (lv_at hl 4 rfl) ?_
        refine lv_iload_n hx hb dX0_mark_17 rfl (lv_at hl 3 rfl) ?_
        obtain ⟨hin, hf⟩ := gs_gd_e hf
        refine va_zast hx hb hK hP hD hS 8 5 rfl rfl hin dX0_mark_18 (fun H locs hP hD hS => ?_)
        obtain ⟨σ1, es, hf⟩ := gs_lt_e hf
        have hP : va_P (dC, dI) vwCl (wA h k T σ1) H := by rw [es]; exact hP
        have hD : va_D A (wA h k T σ1) := by rw [es]; exact hD
        clear es
        refine lv_iinc (v := z4 + 1) (lv' := [(4, .int (z4 + 1)), (0, .ref (h 7)), (1, .int z1), (2, .int z2), (3, .int z3)]) hx hb dX0_mark_19 hl (k := 4) rfl rfl (by decide) rfl (fun ls hl => ?_)
        refine lv_goto (tgt := 3) hx hb dX0_mark_22 (by decide) ?_
        exact ih z1 z2 z3 (z4 + 1) σ1 _ _ _ hf hP hD hS (lv_sub hl [1, 2, 3, 4, 0] rfl)
  have hl := lv_entry ([.ref (h 7), .int x1, .int x2, .int x3]) (n := 5) (Nat.le_of_ble_eq_true rfl)
  rw [lg_entry_eq]
  generalize (lg_sl ([.ref (h 7), .int x1, .int x2, .int x3]) ++ List.replicate (5 - (lg_sl ([.ref (h 7), .int x1, .int x2, .int x3])).length) Slot.unset).toArray = ls at hl ⊢
  have hl : lv_has ls 5 [(0, .ref (h 7)), (1, .int x1), (2, .int x2), (3, .int x3)] := hl
  rw [fn_X0_mark] at hf
  refine lv_iload_n hx hb dX0_mark_0 rfl (lv_at hl 1 rfl) ?_
  refine lv_istore (lv' := [(4, .int x1), (0, .ref (h 7)), (1, .int x1), (2, .int x2), (3, .int x3)]) hx hb dX0_mark_1 hl (by decide) rfl (fun ls hl => ?_)
  exact L3 gs_fu x1 x2 x3 x1 σ _ _ _ hf hP hD hS (lv_sub hl [1, 2, 3, 4, 0] rfl)
set_option maxHeartbeats 4000000 in
set_option maxRecDepth 100000 in
theorem ct_X0_addExtent (l : Launch) (dC : Nat → ClassId) (dI : Nat → Nat → Nat) (h : Nat → Nat) (k : Nat → ClassId) (T : Nat) (σ : gS) (sz : Nat) (x1 : Int32) (x2 : Int32) (x3 : Int32) (y : Int32 × gS) (hf : fn_X0_addExtent T x1 x2 x3 σ = some y) : Met l yX0_addExtent wsX0_addExtent ({ frames := 1, cells := 0, slots := 0, locals := 24 }) (va_Pc [.ref (h 7), .int x1, .int x2, .int x3] (uPre (dC, dI) vwCl (tA k) (wA h k T) zA σ sz)) (va_Qv (fun u => u = y.2) (uAt (dC, dI) vwCl (tA k) (wA h k T) (va_A (wA h k T σ) sz)) (va_A (wA h k T σ) sz)) 0 0 (va_A (wA h k T σ) sz) := by
  refine Met.ofW (cc := cX0_addExtent) (maxL := 5) (ret := none) (by decide) rfl ?_
  intro p e s m args below meth c s₁ B hml hv
  obtain ⟨rfl, hsz, hP, hK, hD0, hZ⟩ := hv
  have hx := B.exec
  have hb := B.bytes
  have hr := B.returns
  have hts : ∀ w ∈ gG, w.before _ s = true := fun w h => atoms_spec (ws := wsX0_addExtent) B.pre w (List.mem_cons_of_mem _ h)
  have hown : s.vm.findClass RX0 = some m.cls := findClass_of_methodNamed B.named
  have hlocks := B.notSynchronized
  subst hsz
  have hD := hD0.self (sz := s.heap.size)
  generalize hAe : va_A (wA h k T σ) s.heap.size = A at hD hZ ⊢
  have hA : ∀ q : Nat, s.heap.size ≤ q → A q := fun q h => by rw [← hAe]; exact Or.inr h
  have hS : va_S A s.heap s.heap [] := va_S.rf
  obtain ⟨t0, hZ0, hT0, hN0⟩ := id hZ
  have hl := lv_entry ([.ref (h 7), .int x1, .int x2, .int x3]) (n := 5) (Nat.le_of_ble_eq_true rfl)
  rw [lg_entry_eq]
  generalize (lg_sl ([.ref (h 7), .int x1, .int x2, .int x3]) ++ List.replicate (5 - (lg_sl ([.ref (h 7), .int x1, .int x2, .int x3])).length) Slot.unset).toArray = ls at hl ⊢
  have hl : lv_has ls 5 [(0, .ref (h 7)), (1, .int x1), (2, .int x2), (3, .int x3)] := hl
  rw [fn_X0_addExtent] at hf
  refine lv_iload_n hx hb dX0_addExtent_0 rfl (lv_at hl 1 rfl) ?_
  refine lv_iconst (v := 3) hx hb dX0_addExtent_1 (by decide) ?_
  refine lv_imul hx hb dX0_addExtent_2 ?_
  refine lv_aload_n hx hb dX0_addExtent_3 rfl (lv_at hl 0 rfl) ?_
  refine va_get (D := (dC, dI)) (ci := 0) (v := .ref (h 10)) (C := RX0) (T := TX0) (N := 5) hx hb hts inG_X0 hown hK hP 7 rfl rfl 2 (by decide) (hts _ mg_74) (fun _ h9 => h9) rfl dX0_addExtent_4 ?_
  refine lv_iload_n hx hb dX0_addExtent_7 rfl (lv_at hl 1 rfl) ?_
  obtain ⟨hin, hf⟩ := gs_gd_e hf
  refine va_iald hx hb hK hP 10 7 rfl rfl hin dX0_addExtent_8 ?_
  refine lv_iadd hx hb dX0_addExtent_9 ?_
  refine lv_istore (lv' := [(4, .int ((x1 * 3) + (σ 9 x1.toNatClampNeg))), (0, .ref (h 7)), (1, .int x1), (2, .int x2), (3, .int x3)]) hx hb dX0_addExtent_10 hl (by decide) rfl (fun ls hl => ?_)
  refine lv_aload_n hx hb dX0_addExtent_12 rfl (lv_at hl 1 rfl) ?_
  refine va_get (D := (dC, dI)) (ci := 0) (v := .ref (h 11)) (C := RX0) (T := TX0) (N := 5) hx hb hts inG_X0 hown hK hP 7 rfl rfl 3 (by decide) (hts _ mg_75) (fun _ h9 => h9) rfl dX0_addExtent_13 ?_
  refine lv_iload hx hb dX0_addExtent_16 (lv_at hl 0 rfl) ?_
  refine lv_iload_n hx hb dX0_addExtent_18 rfl (lv_at hl 3 rfl) ?_
  obtain ⟨hin, hf⟩ := gs_gd_e hf
  refine va_iast hx hb hK hP hD hS 11 8 rfl rfl hin dX0_addExtent_19 (fun H locs hP hD hS => ?_)
  obtain ⟨σ1, es, hf⟩ := gs_lt_e hf
  have hP : va_P (dC, dI) vwCl (wA h k T σ1) H := by rw [es]; exact hP
  have hD : va_D A (wA h k T σ1) := by rw [es]; exact hD
  clear es
  refine lv_aload_n hx hb dX0_addExtent_20 rfl (lv_at hl 1 rfl) ?_
  refine va_get (D := (dC, dI)) (ci := 0) (v := .ref (h 12)) (C := RX0) (T := TX0) (N := 5) hx hb hts inG_X0 hown hK hP 7 rfl rfl 4 (by decide) (hts _ mg_76) (fun _ h9 => h9) rfl dX0_addExtent_21 ?_
  refine lv_iload hx hb dX0_addExtent_24 (lv_at hl 0 rfl) ?_
  refine lv_iload_n hx hb dX0_addExtent_26 rfl (lv_at hl 4 rfl) ?_
  obtain ⟨hin, hf⟩ := gs_gd_e hf
  refine va_iast hx hb hK hP hD hS 12 9 rfl rfl hin dX0_addExtent_27 (fun H locs hP hD hS => ?_)
  obtain ⟨σ2, es, hf⟩ := gs_lt_e hf
  have hP : va_P (dC, dI) vwCl (wA h k T σ2) H := by rw [es]; exact hP
  have hD : va_D A (wA h k T σ2) := by rw [es]; exact hD
  clear es
  refine lv_aload_n hx hb dX0_addExtent_28 rfl (lv_at hl 1 rfl) ?_
  refine va_get (D := (dC, dI)) (ci := 0) (v := .ref (h 10)) (C := RX0) (T := TX0) (N := 5) hx hb hts inG_X0 hown hK hP 7 rfl rfl 2 (by decide) (hts _ mg_74) (fun _ h9 => h9) rfl dX0_addExtent_29 ?_
  refine lv_iload_n hx hb dX0_addExtent_32 rfl (lv_at hl 2 rfl) ?_
  refine lv_dup2_11 hx hb dX0_addExtent_33 rfl rfl ?_
  obtain ⟨hin, hf⟩ := gs_gd_e hf
  refine va_iald hx hb hK hP 10 7 rfl rfl hin dX0_addExtent_34 ?_
  refine lv_iconst (v := 1) hx hb dX0_addExtent_35 (by decide) ?_
  refine lv_iadd hx hb dX0_addExtent_36 ?_
  obtain ⟨hin, hf⟩ := gs_gd_e hf
  refine va_iast hx hb hK hP hD hS 10 7 rfl rfl hin dX0_addExtent_37 (fun H locs hP hD hS => ?_)
  obtain ⟨σ3, es, hf⟩ := gs_lt_e hf
  have hP : va_P (dC, dI) vwCl (wA h k T σ3) H := by rw [es]; exact hP
  have hD : va_D A (wA h k T σ3) := by rw [es]; exact hD
  clear es
  refine lv_aload_n hx hb dX0_addExtent_38 rfl (lv_at hl 1 rfl) ?_
  refine va_get (D := (dC, dI)) (ci := 0) (v := .ref (h 9)) (C := RX0) (T := TX0) (N := 5) hx hb hts inG_X0 hown hK hP 7 rfl rfl 1 (by decide) (hts _ mg_73) (fun _ h9 => h9) rfl dX0_addExtent_39 ?_
  refine lv_iload_n hx hb dX0_addExtent_42 rfl (lv_at hl 2 rfl) ?_
  refine lv_dup2_11 hx hb dX0_addExtent_43 rfl rfl ?_
  obtain ⟨hin, hf⟩ := gs_gd_e hf
  refine va_iald hx hb hK hP 9 6 rfl rfl hin dX0_addExtent_44 ?_
  refine lv_iload_n hx hb dX0_addExtent_45 rfl (lv_at hl 4 rfl) ?_
  refine lv_iadd hx hb dX0_addExtent_46 ?_
  obtain ⟨hin, hf⟩ := gs_gd_e hf
  refine va_iast hx hb hK hP hD hS 9 6 rfl rfl hin dX0_addExtent_47 (fun H locs hP hD hS => ?_)
  obtain ⟨σ4, es, hf⟩ := gs_lt_e hf
  have hP : va_P (dC, dI) vwCl (wA h k T σ4) H := by rw [es]; exact hP
  have hD : va_D A (wA h k T σ4) := by rw [es]; exact hD
  clear es
  refine lv_aload_n hx hb dX0_addExtent_48 rfl (lv_at hl 1 rfl) ?_
  refine lv_iload_n hx hb dX0_addExtent_49 rfl (lv_at hl 3 rfl) ?_
  refine lv_iload_n hx hb dX0_addExtent_50 rfl (lv_at hl 4 rfl) ?_
  refine lv_iconst (v := 1) hx hb dX0_addExtent_51 (by decide) ?_
  obtain ⟨r5, σ6, hc, hf⟩ := gs_ob_e hf
  have hF := u_free hD hS hA
  refine u_callv (va_runV (As := [.int x2, .int x3, .int 1]) (rest := []) ⟨hx, hb, hml, hown, hts⟩ (ct_X0_mark l dC dI h k T σ4 H.size x2 x3 1 _ hc) (cwV 3 hts (gd_V mg_106 mg_107 mg_4 mg_35 mg_108) rfl rfl rfl (by decide +kernel) ⟨Nat.le_of_ble_eq_true rfl, Nat.le_of_ble_eq_true rfl⟩) (u_preV zA_g hK hP hD hS hF hZ (va_recv hK hP (ci := 0) (q0 := 7) rfl rfl)) rfl rfl hl.1 rfl (lv_room (Nat.le_of_ble_eq_true rfl)) dX0_addExtent_52 ⟨Nat.le_refl _, Nat.le_refl _⟩) hS hF (fun H locs hP hD hS => ?_)
  exact W.vret hx hb hr (fun t ht hW => u_rv (Option.some.inj hf) ht hW hP hK hD hS) hS.2.2 dX0_addExtent_55
set_option maxHeartbeats 4000000 in
set_option maxRecDepth 100000 in
theorem ct_X0_longestRun (l : Launch) (dC : Nat → ClassId) (dI : Nat → Nat → Nat) (h : Nat → Nat) (k : Nat → ClassId) (T : Nat) (σ : gS) (sz : Nat) (y : Int32 × gS) (hf : fn_X0_longestRun T σ = some y) : Met l yX0_longestRun wsX0_longestRun ({ frames := 1, cells := 0, slots := 0, locals := 22 }) (va_Pc [.ref (h 7)] (uPre (dC, dI) vwCl (tA k) (wA h k T) zA σ sz)) (va_Qi (fun r u => (r, u) = y) (uAt (dC, dI) vwCl (tA k) (wA h k T) (va_A (wA h k T σ) sz)) (va_A (wA h k T σ) sz)) 0 0 (va_A (wA h k T σ) sz) := by
  refine Met.ofW (cc := cX0_longestRun) (maxL := 4) (ret := (some .int)) (by decide) rfl ?_
  intro p e s m args below meth c s₁ B hml hv
  obtain ⟨rfl, hsz, hP, hK, hD0, hZ⟩ := hv
  have hx := B.exec
  have hb := B.bytes
  have hr := B.returns
  have hts : ∀ w ∈ gG, w.before _ s = true := fun w h => atoms_spec (ws := wsX0_longestRun) B.pre w (List.mem_cons_of_mem _ h)
  have hown : s.vm.findClass RX0 = some m.cls := findClass_of_methodNamed B.named
  have hlocks := B.notSynchronized
  subst hsz
  have hD := hD0.self (sz := s.heap.size)
  generalize hAe : va_A (wA h k T σ) s.heap.size = A at hD hZ ⊢
  have hA : ∀ q : Nat, s.heap.size ≤ q → A q := fun q h => by rw [← hAe]; exact Or.inr h
  have hS : va_S A s.heap s.heap [] := va_S.rf
  obtain ⟨t0, hZ0, hT0, hN0⟩ := id hZ
  have L6 : ∀ (n : Nat), ∀ (z1 : Int32) (z2 : Int32) (z3 : Int32) (σ : gS) (H : Heap) (locs : List Loc) (ls : Array Slot), fn_X0_longestRun_L6 T n z1 z2 z3 σ = some y → va_P (dC, dI) vwCl (wA h k T σ) H → va_D A (wA h k T σ) → va_S A s.heap H locs → lv_has ls 4 [(0, .ref (h 7)), (1, .int z1), (2, .int z2), (3, .int z3)] → W p l e ({ frames := 1, cells := 0, slots := 0, locals := 22 }) s m ([.ref (h 7)] : List Value).toArray below meth c H locs 0 0 (MQ below (va_Qi (fun r u => (r, u) = y) (uAt (dC, dI) vwCl (tA k) (wA h k T) A) A) ([.ref (h 7)] : List Value).toArray s 0 0 A) (F0 m 6 ls []) := by
    intro n
    induction n with
    | zero => intro z1 z2 z3 σ H locs ls hf; exact absurd hf (by rw [fn_X0_longestRun_L6]; exact nofun)
    | succ n ih =>
      intro z1 z2 z3 σ H locs ls hf hP hD hS hl
      rw [fn_X0_longestRun_L6] at hf
      refine lv_iload_n hx hb dX0_longestRun_6 rfl (lv_at hl 3 rfl) ?_
      refine lv_aload_n hx hb dX0_longestRun_7 rfl (lv_at hl 0 rfl) ?_
      refine va_get (D := (dC, dI)) (ci := 0) (v := .ref (h 8)) (C := RX0) (T := TX0) (N := 5) hx hb hts inG_X0 hown hK hP 7 rfl rfl 0 (by decide) (hts _ mg_72) (fun _ h9 => h9) rfl dX0_longestRun_8 ?_
      refine va_alen (v := nI (3 * T)) hx hb hK hP 8 5 rfl rfl rfl dX0_longestRun_11 ?_
      refine lv_icmp_ge (tgt := 46) hx hb dX0_longestRun_12 (by decide) (fun hq => ?_) (fun hq => ?_)
      · have hf := gs_t hf hq
        refine lv_iload_n hx hb dX0_longestRun_46 rfl (lv_at hl 1 rfl) ?_
        exact W.iret (v := z1) hx hb hr (fun t ht hW => u_ri (Option.some.inj hf) ht hW hP hK hD hS) hS.2.2 dX0_longestRun_47
      · have hf := gs_f hf hq
        refine lv_aload_n hx hb dX0_longestRun_15 rfl (lv_at hl 0 rfl) ?_
        refine lv_iload_n hx hb dX0_longestRun_16 rfl (lv_at hl 3 rfl) ?_
        obtain ⟨r1, σ2, hc, hf⟩ := gs_ob_e hf
        have hF := u_free hD hS hA
        refine u_calli (va_runV (As := [.int z3]) (rest := []) ⟨hx, hb, hml, hown, hts⟩ (ct_X0_startsRun l dC dI h k T σ H.size z3 _ hc) (cwV 1 hts (gd_V mg_97 mg_98 mg_1 mg_35 mg_99) rfl rfl rfl (by decide +kernel) ⟨Nat.le_of_ble_eq_true rfl, Nat.le_of_ble_eq_true rfl⟩) (u_preV zA_g hK hP hD hS hF hZ (va_recv hK hP (ci := 0) (q0 := 7) rfl rfl)) rfl rfl hl.1 rfl (lv_room (Nat.le_of_ble_eq_true rfl)) dX0_longestRun_17 ⟨Nat.le_refl _, Nat.le_refl _⟩) hS hF (fun H locs hP hD hS => ?_)
        refine lv_if_eq (tgt := 40) hx hb dX0_longestRun_20 (by decide) (fun hq => ?_) (fun hq => ?_)
        · have hf := gs_t hf hq
          refine lv_iinc (v := z3 + 1) (lv' := [(3, .int (z3 + 1)), (0, .ref (h 7)), (1, .int z1), (2, .int z2)]) hx hb dX0_longestRun_40 hl (k := 3) rfl rfl (by decide) rfl (fun ls hl => ?_)
          refine lv_goto (tgt := 6) hx hb dX0_longestRun_43 (by decide) ?_
          exact ih z1 z2 (z3 + 1) σ2 _ _ _ hf hP hD hS (lv_sub hl [1, 2, 3, 0] rfl)
        · have hf := gs_f hf hq
          refine lv_aload_n hx hb dX0_longestRun_23 rfl (lv_at hl 0 rfl) ?_
          refine lv_iload_n hx hb dX0_longestRun_24 rfl (lv_at hl 3 rfl) ?_
          obtain ⟨r3, σ4, hc, hf⟩ := gs_ob_e hf
          have hF := u_free hD hS hA
          refine u_calli (va_runV (As := [.int z3]) (rest := []) ⟨hx, hb, hml, hown, hts⟩ (ct_X0_runFrom l dC dI h k T σ2 H.size z3 _ hc) (cwV 1 hts (gd_V mg_100 mg_101 mg_2 mg_35 mg_102) rfl rfl rfl (by decide +kernel) ⟨Nat.le_of_ble_eq_true rfl, Nat.le_of_ble_eq_true rfl⟩) (u_preV zA_g hK hP hD hS hF hZ (va_recv hK hP (ci := 0) (q0 := 7) rfl rfl)) rfl rfl hl.1 rfl (lv_room (Nat.le_of_ble_eq_true rfl)) dX0_longestRun_25 ⟨Nat.le_refl _, Nat.le_refl _⟩) hS hF (fun H locs hP hD hS => ?_)
          refine lv_iload_n hx hb dX0_longestRun_28 rfl (lv_at hl 2 rfl) ?_
          refine lv_icmp_le (tgt := 40) hx hb dX0_longestRun_29 (by decide) (fun hq => ?_) (fun hq => ?_)
          · have hf := gs_t hf hq
            refine lv_iinc (v := z3 + 1) (lv' := [(3, .int (z3 + 1)), (0, .ref (h 7)), (1, .int z1), (2, .int z2)]) hx hb dX0_longestRun_40 hl (k := 3) rfl rfl (by decide) rfl (fun ls hl => ?_)
            refine lv_goto (tgt := 6) hx hb dX0_longestRun_43 (by decide) ?_
            exact ih z1 z2 (z3 + 1) σ4 _ _ _ hf hP hD hS (lv_sub hl [1, 2, 3, 0] rfl)
          · have hf := gs_f hf hq
            refine lv_iload_n hx hb dX0_longestRun_32 rfl (lv_at hl 3 rfl) ?_
            refine lv_istore_n (lv' := [(1, .int z3), (0, .ref (h 7)), (2, .int z2), (3, .int z3)]) hx hb dX0_longestRun_33 rfl hl (by decide) rfl (fun ls hl => ?_)
            refine lv_aload_n hx hb dX0_longestRun_34 rfl (lv_at hl 1 rfl) ?_
            refine lv_iload_n hx hb dX0_longestRun_35 rfl (lv_at hl 3 rfl) ?_
            obtain ⟨r5, σ6, hc, hf⟩ := gs_ob_e hf
            have hF := u_free hD hS hA
            refine u_calli (va_runV (As := [.int z3]) (rest := []) ⟨hx, hb, hml, hown, hts⟩ (ct_X0_runFrom l dC dI h k T σ4 H.size z3 _ hc) (cwV 1 hts (gd_V mg_100 mg_101 mg_2 mg_35 mg_102) rfl rfl rfl (by decide +kernel) ⟨Nat.le_of_ble_eq_true rfl, Nat.le_of_ble_eq_true rfl⟩) (u_preV zA_g hK hP hD hS hF hZ (va_recv hK hP (ci := 0) (q0 := 7) rfl rfl)) rfl rfl hl.1 rfl (lv_room (Nat.le_of_ble_eq_true rfl)) dX0_longestRun_36 ⟨Nat.le_refl _, Nat.le_refl _⟩) hS hF (fun H locs hP hD hS => ?_)
            refine lv_istore_n (lv' := [(2, .int r5), (1, .int z3), (0, .ref (h 7)), (3, .int z3)]) hx hb dX0_longestRun_39 rfl hl (by decide) rfl (fun ls hl => ?_)
            refine lv_iinc (v := z3 + 1) (lv' := [(3, .int (z3 + 1)), (2, .int r5), (1, .int z3), (0, .ref (h 7))]) hx hb dX0_longestRun_40 hl (k := 3) rfl rfl (by decide) rfl (fun ls hl => ?_)
            refine lv_goto (tgt := 6) hx hb dX0_longestRun_43 (by decide) ?_
            exact ih z3 r5 (z3 + 1) σ6 _ _ _ hf hP hD hS (lv_sub hl [3, 2, 1, 0] rfl)
  have hl := lv_entry ([.ref (h 7)]) (n := 4) (Nat.le_of_ble_eq_true rfl)
  rw [lg_entry_eq]
  generalize (lg_sl ([.ref (h 7)]) ++ List.replicate (4 - (lg_sl ([.ref (h 7)])).length) Slot.unset).toArray = ls at hl ⊢
  have hl : lv_has ls 4 [(0, .ref (h 7))] := hl
  rw [fn_X0_longestRun] at hf
  refine lv_iconst (v := (-1)) hx hb dX0_longestRun_0 (by decide) ?_
  refine lv_istore_n (lv' := [(1, .int (-1)), (0, .ref (h 7))]) hx hb dX0_longestRun_1 rfl hl (by decide) rfl (fun ls hl => ?_)
  refine lv_iconst (v := 0) hx hb dX0_longestRun_2 (by decide) ?_
  refine lv_istore_n (lv' := [(2, .int 0), (1, .int (-1)), (0, .ref (h 7))]) hx hb dX0_longestRun_3 rfl hl (by decide) rfl (fun ls hl => ?_)
  refine lv_iconst (v := 0) hx hb dX0_longestRun_4 (by decide) ?_
  refine lv_istore_n (lv' := [(3, .int 0), (2, .int 0), (1, .int (-1)), (0, .ref (h 7))]) hx hb dX0_longestRun_5 rfl hl (by decide) rfl (fun ls hl => ?_)
  exact L6 gs_fu (-1) 0 0 σ _ _ _ hf hP hD hS (lv_sub hl [3, 2, 1, 0] rfl)
set_option maxHeartbeats 4000000 in
set_option maxRecDepth 100000 in
theorem ct_X0_addLongestRun (l : Launch) (dC : Nat → ClassId) (dI : Nat → Nat → Nat) (h : Nat → Nat) (k : Nat → ClassId) (T : Nat) (σ : gS) (sz : Nat) (x1 : Int32) (x2 : Int32) (y : Int32 × gS) (hf : fn_X0_addLongestRun T x1 x2 σ = some y) : Met l yX0_addLongestRun wsX0_addLongestRun ({ frames := 2, cells := 0, slots := 0, locals := 48 }) (va_Pc [.ref (h 7), .int x1, .int x2] (uPre (dC, dI) vwCl (tA k) (wA h k T) zA σ sz)) (va_Qv (fun u => u = y.2) (uAt (dC, dI) vwCl (tA k) (wA h k T) (va_A (wA h k T σ) sz)) (va_A (wA h k T σ) sz)) 0 0 (va_A (wA h k T σ) sz) := by
  refine Met.ofW (cc := cX0_addLongestRun) (maxL := 4) (ret := none) (by decide) rfl ?_
  intro p e s m args below meth c s₁ B hml hv
  obtain ⟨rfl, hsz, hP, hK, hD0, hZ⟩ := hv
  have hx := B.exec
  have hb := B.bytes
  have hr := B.returns
  have hts : ∀ w ∈ gG, w.before _ s = true := fun w h => atoms_spec (ws := wsX0_addLongestRun) B.pre w (List.mem_cons_of_mem _ h)
  have hown : s.vm.findClass RX0 = some m.cls := findClass_of_methodNamed B.named
  have hlocks := B.notSynchronized
  subst hsz
  have hD := hD0.self (sz := s.heap.size)
  generalize hAe : va_A (wA h k T σ) s.heap.size = A at hD hZ ⊢
  have hA : ∀ q : Nat, s.heap.size ≤ q → A q := fun q h => by rw [← hAe]; exact Or.inr h
  have hS : va_S A s.heap s.heap [] := va_S.rf
  obtain ⟨t0, hZ0, hT0, hN0⟩ := id hZ
  have hl := lv_entry ([.ref (h 7), .int x1, .int x2]) (n := 4) (Nat.le_of_ble_eq_true rfl)
  rw [lg_entry_eq]
  generalize (lg_sl ([.ref (h 7), .int x1, .int x2]) ++ List.replicate (4 - (lg_sl ([.ref (h 7), .int x1, .int x2])).length) Slot.unset).toArray = ls at hl ⊢
  have hl : lv_has ls 4 [(0, .ref (h 7)), (1, .int x1), (2, .int x2)] := hl
  rw [fn_X0_addLongestRun] at hf
  refine lv_aload_n hx hb dX0_addLongestRun_0 rfl (lv_at hl 0 rfl) ?_
  obtain ⟨r1, σ2, hc, hf⟩ := gs_ob_e hf
  have hF := u_free hD hS hA
  refine u_calli (va_runV (As := []) (rest := []) ⟨hx, hb, hml, hown, hts⟩ (ct_X0_longestRun l dC dI h k T σ s.heap.size _ hc) (cwV 0 hts (gd_V mg_112 mg_113 mg_6 mg_35 mg_114) rfl rfl rfl (by decide +kernel) ⟨Nat.le_of_ble_eq_true rfl, Nat.le_of_ble_eq_true rfl⟩) (u_preV zA_g hK hP hD hS hF hZ (va_recv hK hP (ci := 0) (q0 := 7) rfl rfl)) rfl rfl hl.1 rfl (lv_room (Nat.le_of_ble_eq_true rfl)) dX0_addLongestRun_1 ⟨Nat.le_refl _, Nat.le_refl _⟩) hS hF (fun H locs hP hD hS => ?_)
  refine lv_istore_n (lv' := [(3, .int r1), (0, .ref (h 7)), (1, .int x1), (2, .int x2)]) hx hb dX0_addLongestRun_4 rfl hl (by decide) rfl (fun ls hl => ?_)
  refine lv_iload_n hx hb dX0_addLongestRun_5 rfl (lv_at hl 0 rfl) ?_
  refine lv_iconst (v := (-1)) hx hb dX0_addLongestRun_6 (by decide) ?_
  refine lv_icmp_eq (tgt := 25) hx hb dX0_addLongestRun_7 (by decide) (fun hq => ?_) (fun hq => ?_)
  · have hf := gs_t hf hq
    exact W.vret hx hb hr (fun t ht hW => u_rv (Option.some.inj hf) ht hW hP hK hD hS) hS.2.2 dX0_addLongestRun_25
  · have hf := gs_f hf hq
    refine lv_aload_n hx hb dX0_addLongestRun_10 rfl (lv_at hl 1 rfl) ?_
    refine lv_iload_n hx hb dX0_addLongestRun_11 rfl (lv_at hl 2 rfl) ?_
    refine lv_iload_n hx hb dX0_addLongestRun_12 rfl (lv_at hl 0 rfl) ?_
    refine lv_aload_n hx hb dX0_addLongestRun_13 rfl (lv_at hl 1 rfl) ?_
    refine lv_iload_n hx hb dX0_addLongestRun_14 rfl (lv_at hl 0 rfl) ?_
    obtain ⟨r3, σ4, hc, hf⟩ := gs_ob_e hf
    have hF := u_free hD hS hA
    refine u_calli (va_runV (As := [.int r1]) (rest := [.int r1, .int x1, .ref (h 7)]) ⟨hx, hb, hml, hown, hts⟩ (ct_X0_runFrom l dC dI h k T σ2 H.size r1 _ hc) (cwV 1 hts (gd_V mg_100 mg_101 mg_2 mg_35 mg_102) rfl rfl rfl (by decide +kernel) ⟨Nat.le_of_ble_eq_true rfl, Nat.le_of_ble_eq_true rfl⟩) (u_preV zA_g hK hP hD hS hF hZ (va_recv hK hP (ci := 0) (q0 := 7) rfl rfl)) rfl rfl hl.1 rfl (lv_room (Nat.le_of_ble_eq_true rfl)) dX0_addLongestRun_15 ⟨Nat.le_refl _, Nat.le_refl _⟩) hS hF (fun H locs hP hD hS => ?_)
    refine lv_iload_n hx hb dX0_addLongestRun_18 rfl (lv_at hl 3 rfl) ?_
    refine va_mmin hx hb (by rw [hml]; exact hl.1.symm) hown (hts _ mg_115) (hts _ mg_46) (hts _ mg_33) (hts _ mg_47) (Nat.le_of_ble_eq_true rfl) (Nat.le_of_ble_eq_true rfl) (Nat.zero_le _) (Nat.zero_le _) dX0_addLongestRun_19 ?_
    obtain ⟨r5, σ6, hc, hf⟩ := gs_ob_e hf
    have hF := u_free hD hS hA
    refine u_callv (va_runV (As := [.int x1, .int r1, .int (if x2 < r3 then x2 else r3)]) (rest := []) ⟨hx, hb, hml, hown, hts⟩ (ct_X0_addExtent l dC dI h k T σ4 H.size x1 r1 (if x2 < r3 then x2 else r3) _ hc) (cwV 3 hts (gd_V mg_103 mg_104 mg_3 mg_35 mg_105) rfl rfl rfl (by decide +kernel) ⟨Nat.le_of_ble_eq_true rfl, Nat.le_of_ble_eq_true rfl⟩) (u_preV zA_g hK hP hD hS hF hZ (va_recv hK hP (ci := 0) (q0 := 7) rfl rfl)) rfl rfl hl.1 rfl (lv_room (Nat.le_of_ble_eq_true rfl)) dX0_addLongestRun_22 ⟨Nat.le_refl _, Nat.le_refl _⟩) hS hF (fun H locs hP hD hS => ?_)
    exact W.vret hx hb hr (fun t ht hW => u_rv (Option.some.inj hf) ht hW hP hK hD hS) hS.2.2 dX0_addLongestRun_25
set_option maxHeartbeats 4000000 in
set_option maxRecDepth 100000 in
theorem ct_X0_extentStart (l : Launch) (dC : Nat → ClassId) (dI : Nat → Nat → Nat) (h : Nat → Nat) (k : Nat → ClassId) (T : Nat) (σ : gS) (sz : Nat) (x1 : Int32) (x2 : Int32) (y : Int32 × gS) (hf : fn_X0_extentStart T x1 x2 σ = some y) : Met l yX0_extentStart wsX0_extentStart ({ frames := 0, cells := 0, slots := 0, locals := 0 }) (va_Pc [.ref (h 7), .int x1, .int x2] (uPre (dC, dI) vwCl (tA k) (wA h k T) zA σ sz)) (va_Qi (fun r u => (r, u) = y) (uAt (dC, dI) vwCl (tA k) (wA h k T) (va_A (wA h k T σ) sz)) (va_A (wA h k T σ) sz)) 0 0 (va_A (wA h k T σ) sz) := by
  refine Met.ofW (cc := cX0_extentStart) (maxL := 3) (ret := (some .int)) (by decide) rfl ?_
  intro p e s m args below meth c s₁ B hml hv
  obtain ⟨rfl, hsz, hP, hK, hD0, hZ⟩ := hv
  have hx := B.exec
  have hb := B.bytes
  have hr := B.returns
  have hts : ∀ w ∈ gG, w.before _ s = true := fun w h => atoms_spec (ws := wsX0_extentStart) B.pre w (List.mem_cons_of_mem _ h)
  have hown : s.vm.findClass RX0 = some m.cls := findClass_of_methodNamed B.named
  have hlocks := B.notSynchronized
  subst hsz
  have hD := hD0.self (sz := s.heap.size)
  generalize hAe : va_A (wA h k T σ) s.heap.size = A at hD hZ ⊢
  have hA : ∀ q : Nat, s.heap.size ≤ q → A q := fun q h => by rw [← hAe]; exact Or.inr h
  have hS : va_S A s.heap s.heap [] := va_S.rf
  obtain ⟨t0, hZ0, hT0, hN0⟩ := id hZ
  have hl := lv_entry ([.ref (h 7), .int x1, .int x2]) (n := 3) (Nat.le_of_ble_eq_true rfl)
  rw [lg_entry_eq]
  generalize (lg_sl ([.ref (h 7), .int x1, .int x2]) ++ List.replicate (3 - (lg_sl ([.ref (h 7), .int x1, .int x2])).length) Slot.unset).toArray = ls at hl ⊢
  have hl : lv_has ls 3 [(0, .ref (h 7)), (1, .int x1), (2, .int x2)] := hl
  rw [fn_X0_extentStart] at hf
  refine lv_aload_n hx hb dX0_extentStart_0 rfl (lv_at hl 0 rfl) ?_
  refine va_get (D := (dC, dI)) (ci := 0) (v := .ref (h 11)) (C := RX0) (T := TX0) (N := 5) hx hb hts inG_X0 hown hK hP 7 rfl rfl 3 (by decide) (hts _ mg_75) (fun _ h9 => h9) rfl dX0_extentStart_1 ?_
  refine lv_iload_n hx hb dX0_extentStart_4 rfl (lv_at hl 1 rfl) ?_
  refine lv_iconst (v := 3) hx hb dX0_extentStart_5 (by decide) ?_
  refine lv_imul hx hb dX0_extentStart_6 ?_
  refine lv_iload_n hx hb dX0_extentStart_7 rfl (lv_at hl 2 rfl) ?_
  refine lv_iadd hx hb dX0_extentStart_8 ?_
  obtain ⟨hin, hf⟩ := gs_gd_e hf
  refine va_iald hx hb hK hP 11 8 rfl rfl hin dX0_extentStart_9 ?_
  exact W.iret (v := σ 10 ((x1 * 3) + x2).toNatClampNeg) hx hb hr (fun t ht hW => u_ri (Option.some.inj hf) ht hW hP hK hD hS) hS.2.2 dX0_extentStart_10
set_option maxHeartbeats 4000000 in
set_option maxRecDepth 100000 in
theorem ct_X0_extentSize (l : Launch) (dC : Nat → ClassId) (dI : Nat → Nat → Nat) (h : Nat → Nat) (k : Nat → ClassId) (T : Nat) (σ : gS) (sz : Nat) (x1 : Int32) (x2 : Int32) (y : Int32 × gS) (hf : fn_X0_extentSize T x1 x2 σ = some y) : Met l yX0_extentSize wsX0_extentSize ({ frames := 0, cells := 0, slots := 0, locals := 0 }) (va_Pc [.ref (h 7), .int x1, .int x2] (uPre (dC, dI) vwCl (tA k) (wA h k T) zA σ sz)) (va_Qi (fun r u => (r, u) = y) (uAt (dC, dI) vwCl (tA k) (wA h k T) (va_A (wA h k T σ) sz)) (va_A (wA h k T σ) sz)) 0 0 (va_A (wA h k T σ) sz) := by
  refine Met.ofW (cc := cX0_extentSize) (maxL := 3) (ret := (some .int)) (by decide) rfl ?_
  intro p e s m args below meth c s₁ B hml hv
  obtain ⟨rfl, hsz, hP, hK, hD0, hZ⟩ := hv
  have hx := B.exec
  have hb := B.bytes
  have hr := B.returns
  have hts : ∀ w ∈ gG, w.before _ s = true := fun w h => atoms_spec (ws := wsX0_extentSize) B.pre w (List.mem_cons_of_mem _ h)
  have hown : s.vm.findClass RX0 = some m.cls := findClass_of_methodNamed B.named
  have hlocks := B.notSynchronized
  subst hsz
  have hD := hD0.self (sz := s.heap.size)
  generalize hAe : va_A (wA h k T σ) s.heap.size = A at hD hZ ⊢
  have hA : ∀ q : Nat, s.heap.size ≤ q → A q := fun q h => by rw [← hAe]; exact Or.inr h
  have hS : va_S A s.heap s.heap [] := va_S.rf
  obtain ⟨t0, hZ0, hT0, hN0⟩ := id hZ
  have hl := lv_entry ([.ref (h 7), .int x1, .int x2]) (n := 3) (Nat.le_of_ble_eq_true rfl)
  rw [lg_entry_eq]
  generalize (lg_sl ([.ref (h 7), .int x1, .int x2]) ++ List.replicate (3 - (lg_sl ([.ref (h 7), .int x1, .int x2])).length) Slot.unset).toArray = ls at hl ⊢
  have hl : lv_has ls 3 [(0, .ref (h 7)), (1, .int x1), (2, .int x2)] := hl
  rw [fn_X0_extentSize] at hf
  refine lv_aload_n hx hb dX0_extentSize_0 rfl (lv_at hl 0 rfl) ?_
  refine va_get (D := (dC, dI)) (ci := 0) (v := .ref (h 12)) (C := RX0) (T := TX0) (N := 5) hx hb hts inG_X0 hown hK hP 7 rfl rfl 4 (by decide) (hts _ mg_76) (fun _ h9 => h9) rfl dX0_extentSize_1 ?_
  refine lv_iload_n hx hb dX0_extentSize_4 rfl (lv_at hl 1 rfl) ?_
  refine lv_iconst (v := 3) hx hb dX0_extentSize_5 (by decide) ?_
  refine lv_imul hx hb dX0_extentSize_6 ?_
  refine lv_iload_n hx hb dX0_extentSize_7 rfl (lv_at hl 2 rfl) ?_
  refine lv_iadd hx hb dX0_extentSize_8 ?_
  obtain ⟨hin, hf⟩ := gs_gd_e hf
  refine va_iald hx hb hK hP 12 9 rfl rfl hin dX0_extentSize_9 ?_
  exact W.iret (v := σ 11 ((x1 * 3) + x2).toNatClampNeg) hx hb hr (fun t ht hW => u_ri (Option.some.inj hf) ht hW hP hK hD hS) hS.2.2 dX0_extentSize_10
set_option maxHeartbeats 4000000 in
set_option maxRecDepth 100000 in
theorem ct_X0_release (l : Launch) (dC : Nat → ClassId) (dI : Nat → Nat → Nat) (h : Nat → Nat) (k : Nat → ClassId) (T : Nat) (σ : gS) (sz : Nat) (x1 : Int32) (y : Int32 × gS) (hf : fn_X0_release T x1 σ = some y) : Met l yX0_release wsX0_release ({ frames := 1, cells := 0, slots := 0, locals := 24 }) (va_Pc [.ref (h 7), .int x1] (uPre (dC, dI) vwCl (tA k) (wA h k T) zA σ sz)) (va_Qv (fun u => u = y.2) (uAt (dC, dI) vwCl (tA k) (wA h k T) (va_A (wA h k T σ) sz)) (va_A (wA h k T σ) sz)) 0 0 (va_A (wA h k T σ) sz) := by
  refine Met.ofW (cc := cX0_release) (maxL := 3) (ret := none) (by decide) rfl ?_
  intro p e s m args below meth c s₁ B hml hv
  obtain ⟨rfl, hsz, hP, hK, hD0, hZ⟩ := hv
  have hx := B.exec
  have hb := B.bytes
  have hr := B.returns
  have hts : ∀ w ∈ gG, w.before _ s = true := fun w h => atoms_spec (ws := wsX0_release) B.pre w (List.mem_cons_of_mem _ h)
  have hown : s.vm.findClass RX0 = some m.cls := findClass_of_methodNamed B.named
  have hlocks := B.notSynchronized
  subst hsz
  have hD := hD0.self (sz := s.heap.size)
  generalize hAe : va_A (wA h k T σ) s.heap.size = A at hD hZ ⊢
  have hA : ∀ q : Nat, s.heap.size ≤ q → A q := fun q h => by rw [← hAe]; exact Or.inr h
  have hS : va_S A s.heap s.heap [] := va_S.rf
  obtain ⟨t0, hZ0, hT0, hN0⟩ := id hZ
  have L2 : ∀ (n : Nat), ∀ (z1 : Int32) (z2 : Int32) (σ : gS) (H : Heap) (locs : List Loc) (ls : Array Slot), fn_X0_release_L2 T n z1 z2 σ = some y → va_P (dC, dI) vwCl (wA h k T σ) H → va_D A (wA h k T σ) → va_S A s.heap H locs → lv_has ls 3 [(0, .ref (h 7)), (1, .int z1), (2, .int z2)] → W p l e ({ frames := 1, cells := 0, slots := 0, locals := 24 }) s m ([.ref (h 7), .int x1] : List Value).toArray below meth c H locs 0 0 (MQ below (va_Qv (fun u => u = y.2) (uAt (dC, dI) vwCl (tA k) (wA h k T) A) A) ([.ref (h 7), .int x1] : List Value).toArray s 0 0 A) (F0 m 2 ls []) := by
    intro n
    induction n with
    | zero => intro z1 z2 σ H locs ls hf; exact absurd hf (by rw [fn_X0_release_L2]; exact nofun)
    | succ n ih =>
      intro z1 z2 σ H locs ls hf hP hD hS hl
      rw [fn_X0_release_L2] at hf
      refine lv_iload_n hx hb dX0_release_2 rfl (lv_at hl 2 rfl) ?_
      refine lv_aload_n hx hb dX0_release_3 rfl (lv_at hl 0 rfl) ?_
      refine va_get (D := (dC, dI)) (ci := 0) (v := .ref (h 10)) (C := RX0) (T := TX0) (N := 5) hx hb hts inG_X0 hown hK hP 7 rfl rfl 2 (by decide) (hts _ mg_74) (fun _ h9 => h9) rfl dX0_release_4 ?_
      refine lv_iload_n hx hb dX0_release_7 rfl (lv_at hl 1 rfl) ?_
      obtain ⟨hin, hf⟩ := gs_gd_e hf
      refine va_iald hx hb hK hP 10 7 rfl rfl hin dX0_release_8 ?_
      refine lv_icmp_ge (tgt := 35) hx hb dX0_release_9 (by decide) (fun hq => ?_) (fun hq => ?_)
      · have hf := gs_t hf hq
        refine lv_aload_n hx hb dX0_release_35 rfl (lv_at hl 0 rfl) ?_
        refine va_get (D := (dC, dI)) (ci := 0) (v := .ref (h 10)) (C := RX0) (T := TX0) (N := 5) hx hb hts inG_X0 hown hK hP 7 rfl rfl 2 (by decide) (hts _ mg_74) (fun _ h9 => h9) rfl dX0_release_36 ?_
        refine lv_iload_n hx hb dX0_release_39 rfl (lv_at hl 1 rfl) ?_
        refine lv_iconst (v := 0) hx hb dX0_release_40 (by decide) ?_
        obtain ⟨hin, hf⟩ := gs_gd_e hf
        refine va_iast hx hb hK hP hD hS 10 7 rfl rfl hin dX0_release_41 (fun H locs hP hD hS => ?_)
        obtain ⟨σ1, es, hf⟩ := gs_lt_e hf
        have hP : va_P (dC, dI) vwCl (wA h k T σ1) H := by rw [es]; exact hP
        have hD : va_D A (wA h k T σ1) := by rw [es]; exact hD
        clear es
        refine lv_aload_n hx hb dX0_release_42 rfl (lv_at hl 0 rfl) ?_
        refine va_get (D := (dC, dI)) (ci := 0) (v := .ref (h 9)) (C := RX0) (T := TX0) (N := 5) hx hb hts inG_X0 hown hK hP 7 rfl rfl 1 (by decide) (hts _ mg_73) (fun _ h9 => h9) rfl dX0_release_43 ?_
        refine lv_iload_n hx hb dX0_release_46 rfl (lv_at hl 1 rfl) ?_
        refine lv_iconst (v := 0) hx hb dX0_release_47 (by decide) ?_
        obtain ⟨hin, hf⟩ := gs_gd_e hf
        refine va_iast hx hb hK hP hD hS 9 6 rfl rfl hin dX0_release_48 (fun H locs hP hD hS => ?_)
        obtain ⟨σ2, es, hf⟩ := gs_lt_e hf
        have hP : va_P (dC, dI) vwCl (wA h k T σ2) H := by rw [es]; exact hP
        have hD : va_D A (wA h k T σ2) := by rw [es]; exact hD
        clear es
        exact W.vret hx hb hr (fun t ht hW => u_rv (Option.some.inj hf) ht hW hP hK hD hS) hS.2.2 dX0_release_49
      · have hf := gs_f hf hq
        refine lv_aload_n hx hb dX0_release_12 rfl (lv_at hl 0 rfl) ?_
        refine lv_aload_n hx hb dX0_release_13 rfl (lv_at hl 0 rfl) ?_
        refine lv_iload_n hx hb dX0_release_14 rfl (lv_at hl 1 rfl) ?_
        refine lv_iload_n hx hb dX0_release_15 rfl (lv_at hl 2 rfl) ?_
        obtain ⟨r3, σ4, hc, hf⟩ := gs_ob_e hf
        have hF := u_free hD hS hA
        refine u_calli (va_runV (As := [.int z1, .int z2]) (rest := [.ref (h 7)]) ⟨hx, hb, hml, hown, hts⟩ (ct_X0_extentStart l dC dI h k T σ H.size z1 z2 _ hc) (cwV 2 hts (gd_V mg_120 mg_121 mg_122 mg_35 mg_123) rfl rfl rfl (by decide +kernel) ⟨Nat.le_of_ble_eq_true rfl, Nat.le_of_ble_eq_true rfl⟩) (u_preV zA_g hK hP hD hS hF hZ (va_recv hK hP (ci := 0) (q0 := 7) rfl rfl)) rfl rfl hl.1 rfl (lv_room (Nat.le_of_ble_eq_true rfl)) dX0_release_16 ⟨Nat.le_refl _, Nat.le_refl _⟩) hS hF (fun H locs hP hD hS => ?_)
        refine lv_aload_n hx hb dX0_release_19 rfl (lv_at hl 0 rfl) ?_
        refine lv_iload_n hx hb dX0_release_20 rfl (lv_at hl 1 rfl) ?_
        refine lv_iload_n hx hb dX0_release_21 rfl (lv_at hl 2 rfl) ?_
        obtain ⟨r5, σ6, hc, hf⟩ := gs_ob_e hf
        have hF := u_free hD hS hA
        refine u_calli (va_runV (As := [.int z1, .int z2]) (rest := [.int r3, .ref (h 7)]) ⟨hx, hb, hml, hown, hts⟩ (ct_X0_extentSize l dC dI h k T σ4 H.size z1 z2 _ hc) (cwV 2 hts (gd_V mg_124 mg_125 mg_126 mg_35 mg_127) rfl rfl rfl (by decide +kernel) ⟨Nat.le_of_ble_eq_true rfl, Nat.le_of_ble_eq_true rfl⟩) (u_preV zA_g hK hP hD hS hF hZ (va_recv hK hP (ci := 0) (q0 := 7) rfl rfl)) rfl rfl hl.1 rfl (lv_room (Nat.le_of_ble_eq_true rfl)) dX0_release_22 ⟨Nat.le_refl _, Nat.le_refl _⟩) hS hF (fun H locs hP hD hS => ?_)
        refine lv_iconst (v := 0) hx hb dX0_release_25 (by decide) ?_
        obtain ⟨r7, σ8, hc, hf⟩ := gs_ob_e hf
        have hF := u_free hD hS hA
        refine u_callv (va_runV (As := [.int r3, .int r5, .int 0]) (rest := []) ⟨hx, hb, hml, hown, hts⟩ (ct_X0_mark l dC dI h k T σ6 H.size r3 r5 0 _ hc) (cwV 3 hts (gd_V mg_106 mg_107 mg_4 mg_35 mg_108) rfl rfl rfl (by decide +kernel) ⟨Nat.le_of_ble_eq_true rfl, Nat.le_of_ble_eq_true rfl⟩) (u_preV zA_g hK hP hD hS hF hZ (va_recv hK hP (ci := 0) (q0 := 7) rfl rfl)) rfl rfl hl.1 rfl (lv_room (Nat.le_of_ble_eq_true rfl)) dX0_release_26 ⟨Nat.le_refl _, Nat.le_refl _⟩) hS hF (fun H locs hP hD hS => ?_)
        refine lv_iinc (v := z2 + 1) (lv' := [(2, .int (z2 + 1)), (0, .ref (h 7)), (1, .int z1)]) hx hb dX0_release_29 hl (k := 2) rfl rfl (by decide) rfl (fun ls hl => ?_)
        refine lv_goto (tgt := 2) hx hb dX0_release_32 (by decide) ?_
        exact ih z1 (z2 + 1) σ8 _ _ _ hf hP hD hS (lv_sub hl [1, 2, 0] rfl)
  have hl := lv_entry ([.ref (h 7), .int x1]) (n := 3) (Nat.le_of_ble_eq_true rfl)
  rw [lg_entry_eq]
  generalize (lg_sl ([.ref (h 7), .int x1]) ++ List.replicate (3 - (lg_sl ([.ref (h 7), .int x1])).length) Slot.unset).toArray = ls at hl ⊢
  have hl : lv_has ls 3 [(0, .ref (h 7)), (1, .int x1)] := hl
  rw [fn_X0_release] at hf
  refine lv_iconst (v := 0) hx hb dX0_release_0 (by decide) ?_
  refine lv_istore_n (lv' := [(2, .int 0), (0, .ref (h 7)), (1, .int x1)]) hx hb dX0_release_1 rfl hl (by decide) rfl (fun ls hl => ?_)
  exact L2 gs_fu x1 0 σ _ _ _ hf hP hD hS (lv_sub hl [1, 2, 0] rfl)
set_option maxHeartbeats 4000000 in
set_option maxRecDepth 100000 in
theorem ct_X0_make (l : Launch) (dC : Nat → ClassId) (dI : Nat → Nat → Nat) (h : Nat → Nat) (k : Nat → ClassId) (T : Nat) (σ : gS) (sz : Nat) (x1 : Int32) (x2 : Int32) (y : Int32 × gS) (hf : fn_X0_make T x1 x2 σ = some y) : Met l yX0_make wsX0_make ({ frames := 3, cells := 0, slots := 0, locals := 71 }) (va_Pc [.ref (h 7), .int x1, .int x2] (uPre (dC, dI) vwCl (tA k) (wA h k T) zA σ sz)) (va_Qi (fun r u => (r, u) = y) (uAt (dC, dI) vwCl (tA k) (wA h k T) (va_A (wA h k T σ) sz)) (va_A (wA h k T σ) sz)) 0 0 (va_A (wA h k T σ) sz) := by
  refine Met.ofW (cc := cX0_make) (maxL := 5) (ret := (some .boolean)) (by decide) rfl ?_
  intro p e s m args below meth c s₁ B hml hv
  obtain ⟨rfl, hsz, hP, hK, hD0, hZ⟩ := hv
  have hx := B.exec
  have hb := B.bytes
  have hr := B.returns
  have hts : ∀ w ∈ gG, w.before _ s = true := fun w h => atoms_spec (ws := wsX0_make) B.pre w (List.mem_cons_of_mem _ h)
  have hown : s.vm.findClass RX0 = some m.cls := findClass_of_methodNamed B.named
  have hlocks := B.notSynchronized
  subst hsz
  have hD := hD0.self (sz := s.heap.size)
  generalize hAe : va_A (wA h k T σ) s.heap.size = A at hD hZ ⊢
  have hA : ∀ q : Nat, s.heap.size ≤ q → A q := fun q h => by rw [← hAe]; exact Or.inr h
  have hS : va_S A s.heap s.heap [] := va_S.rf
  obtain ⟨t0, hZ0, hT0, hN0⟩ := id hZ
  have L23 : ∀ (n : Nat), ∀ (z1 : Int32) (z2 : Int32) (z4 : Int32) (σ : gS) (H : Heap) (locs : List Loc) (ls : Array Slot), fn_X0_make_L23 T n z1 z2 z4 σ = some y → va_P (dC, dI) vwCl (wA h k T σ) H → va_D A (wA h k T σ) → va_S A s.heap H locs → lv_has ls 5 [(0, .ref (h 7)), (1, .int z1), (2, .int z2), (4, .int z4)] → W p l e ({ frames := 3, cells := 0, slots := 0, locals := 71 }) s m ([.ref (h 7), .int x1, .int x2] : List Value).toArray below meth c H locs 0 0 (MQ below (va_Qi (fun r u => (r, u) = y) (uAt (dC, dI) vwCl (tA k) (wA h k T) A) A) ([.ref (h 7), .int x1, .int x2] : List Value).toArray s 0 0 A) (F0 m 23 ls []) := by
    intro n
    induction n with
    | zero => intro z1 z2 z4 σ H locs ls hf; exact absurd hf (by rw [fn_X0_make_L23]; exact nofun)
    | succ n ih =>
      intro z1 z2 z4 σ H locs ls hf hP hD hS hl
      rw [fn_X0_make_L23] at hf
      refine lv_iload hx hb dX0_make_23 (lv_at hl 3 rfl) ?_
      refine lv_iconst (v := 3) hx hb dX0_make_25 (by decide) ?_
      refine lv_icmp_ge (tgt := 58) hx hb dX0_make_26 (by decide) (fun hq => ?_) (fun hq => ?_)
      · have hf := gs_t hf hq
        refine lv_aload_n hx hb dX0_make_58 rfl (lv_at hl 0 rfl) ?_
        refine va_get (D := (dC, dI)) (ci := 0) (v := .ref (h 9)) (C := RX0) (T := TX0) (N := 5) hx hb hts inG_X0 hown hK hP 7 rfl rfl 1 (by decide) (hts _ mg_73) (fun _ h9 => h9) rfl dX0_make_59 ?_
        refine lv_iload_n hx hb dX0_make_62 rfl (lv_at hl 1 rfl) ?_
        obtain ⟨hin, hf⟩ := gs_gd_e hf
        refine va_iald hx hb hK hP 9 6 rfl rfl hin dX0_make_63 ?_
        refine lv_iload_n hx hb dX0_make_64 rfl (lv_at hl 2 rfl) ?_
        refine lv_icmp_ge (tgt := 75) hx hb dX0_make_65 (by decide) (fun hq => ?_) (fun hq => ?_)
        · have hf := gs_t hf hq
          refine lv_iconst (v := 1) hx hb dX0_make_75 (by decide) ?_
          exact W.zret (v := 1) (ty := .boolean) hx hb hr rfl (fun t ht hW => u_ri (Option.some.inj hf) ht hW hP hK hD hS) hS.2.2 dX0_make_76
        · have hf := gs_f hf hq
          refine lv_aload_n hx hb dX0_make_68 rfl (lv_at hl 0 rfl) ?_
          refine lv_iload_n hx hb dX0_make_69 rfl (lv_at hl 1 rfl) ?_
          obtain ⟨r3, σ4, hc, hf⟩ := gs_ob_e hf
          have hF := u_free hD hS hA
          refine u_callv (va_runV (As := [.int z1]) (rest := []) ⟨hx, hb, hml, hown, hts⟩ (ct_X0_release l dC dI h k T σ H.size z1 _ hc) (cwV 1 hts (gd_V mg_116 mg_117 mg_118 mg_35 mg_119) rfl rfl rfl (by decide +kernel) ⟨Nat.le_of_ble_eq_true rfl, Nat.le_of_ble_eq_true rfl⟩) (u_preV zA_g hK hP hD hS hF hZ (va_recv hK hP (ci := 0) (q0 := 7) rfl rfl)) rfl rfl hl.1 rfl (lv_room (Nat.le_of_ble_eq_true rfl)) dX0_make_70 ⟨Nat.le_refl _, Nat.le_refl _⟩) hS hF (fun H locs hP hD hS => ?_)
          refine lv_iconst (v := 0) hx hb dX0_make_73 (by decide) ?_
          exact W.zret (v := 0) (ty := .boolean) hx hb hr rfl (fun t ht hW => u_ri (Option.some.inj hf) ht hW hP hK hD hS) hS.2.2 dX0_make_74
      · have hf := gs_f hf hq
        refine lv_aload_n hx hb dX0_make_29 rfl (lv_at hl 0 rfl) ?_
        refine va_get (D := (dC, dI)) (ci := 0) (v := .ref (h 9)) (C := RX0) (T := TX0) (N := 5) hx hb hts inG_X0 hown hK hP 7 rfl rfl 1 (by decide) (hts _ mg_73) (fun _ h9 => h9) rfl dX0_make_30 ?_
        refine lv_iload_n hx hb dX0_make_33 rfl (lv_at hl 1 rfl) ?_
        obtain ⟨hin, hf⟩ := gs_gd_e hf
        refine va_iald hx hb hK hP 9 6 rfl rfl hin dX0_make_34 ?_
        refine lv_iload_n hx hb dX0_make_35 rfl (lv_at hl 2 rfl) ?_
        refine lv_icmp_ge (tgt := 58) hx hb dX0_make_36 (by decide) (fun hq => ?_) (fun hq => ?_)
        · have hf := gs_t hf hq
          refine lv_aload_n hx hb dX0_make_58 rfl (lv_at hl 0 rfl) ?_
          refine va_get (D := (dC, dI)) (ci := 0) (v := .ref (h 9)) (C := RX0) (T := TX0) (N := 5) hx hb hts inG_X0 hown hK hP 7 rfl rfl 1 (by decide) (hts _ mg_73) (fun _ h9 => h9) rfl dX0_make_59 ?_
          refine lv_iload_n hx hb dX0_make_62 rfl (lv_at hl 1 rfl) ?_
          obtain ⟨hin, hf⟩ := gs_gd_e hf
          refine va_iald hx hb hK hP 9 6 rfl rfl hin dX0_make_63 ?_
          refine lv_iload_n hx hb dX0_make_64 rfl (lv_at hl 2 rfl) ?_
          refine lv_icmp_ge (tgt := 75) hx hb dX0_make_65 (by decide) (fun hq => ?_) (fun hq => ?_)
          · have hf := gs_t hf hq
            refine lv_iconst (v := 1) hx hb dX0_make_75 (by decide) ?_
            exact W.zret (v := 1) (ty := .boolean) hx hb hr rfl (fun t ht hW => u_ri (Option.some.inj hf) ht hW hP hK hD hS) hS.2.2 dX0_make_76
          · have hf := gs_f hf hq
            refine lv_aload_n hx hb dX0_make_68 rfl (lv_at hl 0 rfl) ?_
            refine lv_iload_n hx hb dX0_make_69 rfl (lv_at hl 1 rfl) ?_
            obtain ⟨r5, σ6, hc, hf⟩ := gs_ob_e hf
            have hF := u_free hD hS hA
            refine u_callv (va_runV (As := [.int z1]) (rest := []) ⟨hx, hb, hml, hown, hts⟩ (ct_X0_release l dC dI h k T σ H.size z1 _ hc) (cwV 1 hts (gd_V mg_116 mg_117 mg_118 mg_35 mg_119) rfl rfl rfl (by decide +kernel) ⟨Nat.le_of_ble_eq_true rfl, Nat.le_of_ble_eq_true rfl⟩) (u_preV zA_g hK hP hD hS hF hZ (va_recv hK hP (ci := 0) (q0 := 7) rfl rfl)) rfl rfl hl.1 rfl (lv_room (Nat.le_of_ble_eq_true rfl)) dX0_make_70 ⟨Nat.le_refl _, Nat.le_refl _⟩) hS hF (fun H locs hP hD hS => ?_)
            refine lv_iconst (v := 0) hx hb dX0_make_73 (by decide) ?_
            exact W.zret (v := 0) (ty := .boolean) hx hb hr rfl (fun t ht hW => u_ri (Option.some.inj hf) ht hW hP hK hD hS) hS.2.2 dX0_make_74
        · have hf := gs_f hf hq
          refine lv_aload_n hx hb dX0_make_39 rfl (lv_at hl 0 rfl) ?_
          refine lv_iload_n hx hb dX0_make_40 rfl (lv_at hl 1 rfl) ?_
          refine lv_iload_n hx hb dX0_make_41 rfl (lv_at hl 2 rfl) ?_
          refine lv_aload_n hx hb dX0_make_42 rfl (lv_at hl 0 rfl) ?_
          refine va_get (D := (dC, dI)) (ci := 0) (v := .ref (h 9)) (C := RX0) (T := TX0) (N := 5) hx hb hts inG_X0 hown hK hP 7 rfl rfl 1 (by decide) (hts _ mg_73) (fun _ h9 => h9) rfl dX0_make_43 ?_
          refine lv_iload_n hx hb dX0_make_46 rfl (lv_at hl 1 rfl) ?_
          obtain ⟨hin, hf⟩ := gs_gd_e hf
          refine va_iald hx hb hK hP 9 6 rfl rfl hin dX0_make_47 ?_
          refine lv_isub hx hb dX0_make_48 ?_
          obtain ⟨r7, σ8, hc, hf⟩ := gs_ob_e hf
          have hF := u_free hD hS hA
          refine u_callv (va_runV (As := [.int z1, .int (z2 - (σ 8 z1.toNatClampNeg))]) (rest := []) ⟨hx, hb, hml, hown, hts⟩ (ct_X0_addLongestRun l dC dI h k T σ H.size z1 (z2 - (σ 8 z1.toNatClampNeg)) _ hc) (cwV 2 hts (gd_V mg_109 mg_110 mg_5 mg_35 mg_111) rfl rfl rfl (by decide +kernel) ⟨Nat.le_of_ble_eq_true rfl, Nat.le_of_ble_eq_true rfl⟩) (u_preV zA_g hK hP hD hS hF hZ (va_recv hK hP (ci := 0) (q0 := 7) rfl rfl)) rfl rfl hl.1 rfl (lv_room (Nat.le_of_ble_eq_true rfl)) dX0_make_49 ⟨Nat.le_refl _, Nat.le_refl _⟩) hS hF (fun H locs hP hD hS => ?_)
          refine lv_iinc (v := z4 + 1) (lv' := [(4, .int (z4 + 1)), (0, .ref (h 7)), (1, .int z1), (2, .int z2)]) hx hb dX0_make_52 hl (k := 3) rfl rfl (by decide) rfl (fun ls hl => ?_)
          refine lv_goto (tgt := 23) hx hb dX0_make_55 (by decide) ?_
          exact ih z1 z2 (z4 + 1) σ8 _ _ _ hf hP hD hS (lv_sub hl [1, 2, 3, 0] rfl)
  have hl := lv_entry ([.ref (h 7), .int x1, .int x2]) (n := 5) (Nat.le_of_ble_eq_true rfl)
  rw [lg_entry_eq]
  generalize (lg_sl ([.ref (h 7), .int x1, .int x2]) ++ List.replicate (5 - (lg_sl ([.ref (h 7), .int x1, .int x2])).length) Slot.unset).toArray = ls at hl ⊢
  have hl : lv_has ls 5 [(0, .ref (h 7)), (1, .int x1), (2, .int x2)] := hl
  rw [fn_X0_make] at hf
  refine lv_aload_n hx hb dX0_make_0 rfl (lv_at hl 0 rfl) ?_
  refine lv_iload_n hx hb dX0_make_1 rfl (lv_at hl 2 rfl) ?_
  obtain ⟨r1, σ2, hc, hf⟩ := gs_ob_e hf
  have hF := u_free hD hS hA
  refine u_calli (va_runV (As := [.int x2]) (rest := []) ⟨hx, hb, hml, hown, hts⟩ (ct_X0_firstRunOf l dC dI h k T σ s.heap.size x2 _ hc) (cwV 1 hts (gd_V mg_94 mg_95 mg_0 mg_35 mg_96) rfl rfl rfl (by decide +kernel) ⟨Nat.le_of_ble_eq_true rfl, Nat.le_of_ble_eq_true rfl⟩) (u_preV zA_g hK hP hD hS hF hZ (va_recv hK hP (ci := 0) (q0 := 7) rfl rfl)) rfl rfl hl.1 rfl (lv_room (Nat.le_of_ble_eq_true rfl)) dX0_make_2 ⟨Nat.le_refl _, Nat.le_refl _⟩) hS hF (fun H locs hP hD hS => ?_)
  refine lv_istore_n (lv' := [(3, .int r1), (0, .ref (h 7)), (1, .int x1), (2, .int x2)]) hx hb dX0_make_5 rfl hl (by decide) rfl (fun ls hl => ?_)
  refine lv_iload_n hx hb dX0_make_6 rfl (lv_at hl 0 rfl) ?_
  refine lv_iconst (v := (-1)) hx hb dX0_make_7 (by decide) ?_
  refine lv_icmp_eq (tgt := 20) hx hb dX0_make_8 (by decide) (fun hq => ?_) (fun hq => ?_)
  · have hf := gs_t hf hq
    refine lv_iconst (v := 0) hx hb dX0_make_20 (by decide) ?_
    refine lv_istore (lv' := [(4, .int 0), (3, .int r1), (0, .ref (h 7)), (1, .int x1), (2, .int x2)]) hx hb dX0_make_21 hl (by decide) rfl (fun ls hl => ?_)
    exact L23 gs_fu x1 x2 0 σ2 _ _ _ hf hP hD hS (lv_sub hl [2, 3, 4, 0] rfl)
  · have hf := gs_f hf hq
    refine lv_aload_n hx hb dX0_make_11 rfl (lv_at hl 1 rfl) ?_
    refine lv_iload_n hx hb dX0_make_12 rfl (lv_at hl 2 rfl) ?_
    refine lv_iload_n hx hb dX0_make_13 rfl (lv_at hl 0 rfl) ?_
    refine lv_iload_n hx hb dX0_make_14 rfl (lv_at hl 3 rfl) ?_
    obtain ⟨r9, σ10, hc, hf⟩ := gs_ob_e hf
    have hF := u_free hD hS hA
    refine u_callv (va_runV (As := [.int x1, .int r1, .int x2]) (rest := []) ⟨hx, hb, hml, hown, hts⟩ (ct_X0_addExtent l dC dI h k T σ2 H.size x1 r1 x2 _ hc) (cwV 3 hts (gd_V mg_103 mg_104 mg_3 mg_35 mg_105) rfl rfl rfl (by decide +kernel) ⟨Nat.le_of_ble_eq_true rfl, Nat.le_of_ble_eq_true rfl⟩) (u_preV zA_g hK hP hD hS hF hZ (va_recv hK hP (ci := 0) (q0 := 7) rfl rfl)) rfl rfl hl.1 rfl (lv_room (Nat.le_of_ble_eq_true rfl)) dX0_make_15 ⟨Nat.le_refl _, Nat.le_refl _⟩) hS hF (fun H locs hP hD hS => ?_)
    refine lv_iconst (v := 1) hx hb dX0_make_18 (by decide) ?_
    exact W.zret (v := 1) (ty := .boolean) hx hb hr rfl (fun t ht hW => u_ri (Option.some.inj hf) ht hW hP hK hD hS) hS.2.2 dX0_make_19
