set_option maxHeartbeats 8000000 in
set_option maxRecDepth 100000 in
/-- THE LAW, from its entry -/
theorem whole_start {p : Program} {e : Env} {s : State} {m : MethodId} {below : List Frame} {meth : Method} {c : Code} (l : Launch) {b L : Nat} {xs : Nat → Int32} (hL : L ≤ 2561) (C0 : lw_At p s m meth c b L xs) : W p l e room_1 s m #[Value.ref b] below meth c s.heap [] 0 0 (lw_Z below #[Value.ref b] s) (entryFrame m ([Value.ref b] : List Value).toArray 4) := by
  obtain ⟨hx, hb, hr, hml, hown, hts0, hX, hbl, hlocks, hgv⟩ := id C0
  have hts : ∀ w ∈ gG, w.before #[Value.ref b] s = true := fun w h => hts0 w (gG_in w h)
  have hown : s.vm.findClass RL = some m.cls := hown
  have hA : ∀ q : Nat, s.heap.size ≤ q → (fun q : Nat => s.heap.size ≤ q) q := fun _ h => h
  have hbA : ¬ (fun q : Nat => s.heap.size ≤ q) b := Nat.not_le.mpr hbl
  have hfl := flat_of_before _ hgv
  obtain ⟨t0, ht0, hT0⟩ := va_Tof (f := fun j => .int (tabH j)) (N := 4) (A := (fun q : Nat => s.heap.size ≤ q)) (by decide) (hfl (.arrayOf (.static "SpreadParity" "HOME_STEPS" "[I") .int) (by decide +kernel)) (va_eqt (hfl (.eq (.length (.static "SpreadParity" "HOME_STEPS" "[I")) (.int 4)) (by decide +kernel))) (fun j hj => va_eqt (hfl (.eq (.elem (.static "SpreadParity" "HOME_STEPS" "[I") (.int (Int32.ofNat j))) (.int (tabH j))) (by revert j hj; decide +kernel))) (fun a h9 => Nat.not_le.mpr h9)
  have hZ : zA (fun q : Nat => s.heap.size ≤ q) s s.heap := ⟨t0, va_Zref (hts0 (.laysStatic "SpreadParity" "HOME_STEPS" "[I") (by decide +kernel)) (hts0 (.initialized "SpreadParity") (by decide +kernel)) ht0 (fun a h9 => Nat.not_le.mpr h9), hT0, va_Nw.of rfl (hts0 (.fieldLinkNest RX1 84 "SpreadParity" "HOME_STEPS" "[I" "SpreadParity") (by decide +kernel))⟩
  obtain ⟨c0, iS0, hKn0⟩ := u_known (C := RX0) (T := TX0) (N := 5) (n := 5) hts inG_X0 (hts _ mg_67)
  obtain ⟨c1, iS1, hKn1⟩ := u_known (C := RX1) (T := TX1) (N := 7) (n := 7) hts inG_X1 (hts _ mg_52)
  obtain ⟨c2, iS2, hKn2⟩ := u_known (C := RX2) (T := TX2) (N := 2) (n := 2) hts inG_X2 (hts _ mg_38)
  obtain ⟨c3, iS3, hKn3⟩ := u_known (C := RX3) (T := TX3) (N := 11) (n := 11) hts inG_X3 (hts _ mg_360)
  obtain ⟨dC, dI, hKc⟩ : ∃ (dC : Nat → ClassId) (dI : Nat → Nat → Nat), ∀ (k : Nat) (q : vw_C), vwCl[k]? = some q → u_Kn s q.1 q.2.1 q.2.2 (dC k) (dI k) := by
    refine ⟨fun k => if k = 0 then c0 else if k = 1 then c1 else if k = 2 then c2 else c3, fun k => if k = 0 then iS0 else if k = 1 then iS1 else if k = 2 then iS2 else iS3, ?_⟩
    intro k q hq
    match k, hq with
    | 0, hq => cases hq; exact hKn0
    | 1, hq => cases hq; exact hKn1
    | 2, hq => cases hq; exact hKn2
    | 3, hq => cases hq; exact hKn3
    | k + 4, hq => simp [vwCl] at hq
  have hS : va_S (fun q : Nat => s.heap.size ≤ q) s.heap s.heap [] := va_S.rf
  have hK : va_K (dC, dI) vwCl [] s := ⟨hKc, fun k q h => by simp at h⟩
  have hP : va_P (dC, dI) vwCl [] s.heap := fun k q h => by simp at h
  have hD : va_D (fun q : Nat => s.heap.size ≤ q) [] := ⟨fun i j p q h => by simp at h, fun k q h => by simp at h⟩
  have hl := lv_entry ([.ref b]) (n := 4) (Nat.le_of_ble_eq_true rfl)
  rw [lg_entry_eq]
  generalize (lg_sl ([.ref b]) ++ List.replicate (4 - (lg_sl ([.ref b])).length) Slot.unset).toArray = ls at hl ⊢
  have hl : lv_has ls 4 [(0, .ref b)] := hl
  refine va_new (ci := 2) (fs := [.null, .null]) (C := RX2) (T := TX2) (N := 2) hx hb hts inG_X2 tyX2 tyX2_ok hown (hts _ mg_37) (hts _ mg_38) (hts _ mg_32) hK hP hD hS hA rfl (fun j hj => by rcases (show j = 0 ∨ j = 1 by omega) with rfl | rfl <;> rfl) (Nat.le_of_ble_eq_true rfl) (Nat.le_of_ble_eq_true rfl) dL_law_0 (fun q0 H hP hD hS => ?_)
  have hP : va_P (dC, dI) vwCl [(q0, .inr (2, [.null, .null]))] H := hP
  have hD : va_D (fun q : Nat => s.heap.size ≤ q) [(q0, .inr (2, [.null, .null]))] := hD
  refine W.widen (k := 1) (n := 2) (by omega) (by omega) ?_
  refine lv_dup hx hb dL_law_3 rfl ?_
  refine lv_aload_n hx hb dL_law_4 rfl (lv_at hl 0 rfl) ?_
  refine lv_iconst (v := 0) hx hb dL_law_5 (by decide) ?_
  refine va_calli (va_runS (As := [.ref b, .int 0]) (rest := [.ref q0, .ref q0]) ⟨hx, hb, hml, hown, hts⟩ (cc_cell l b L xs (by omega)) (va_cwS 2 hts (gd_S mg_356 mg_357 mg_31 mg_358) rfl rfl rfl (by decide +kernel) ⟨Nat.le_of_ble_eq_true rfl, Nat.le_of_ble_eq_true rfl⟩) ⟨fun a U g mk q => ⟨q.1, va_X.moved (u := U) (U := U.calling g mk a) (Vm.Alike.refl U.vm) q.2.1, q.2.2⟩, fun U hU hW => ⟨rfl, by rw [hU]; exact va_X.moved hW.alike (hX.kept (hS.2.1 b hbl hbA)), by rw [hU]; exact Nat.lt_of_lt_of_le hbl hS.1⟩⟩ rfl rfl hl.1 rfl (lv_room (Nat.le_of_ble_eq_true rfl)) dL_law_6 ⟨Nat.le_of_ble_eq_true rfl, Nat.le_of_ble_eq_true rfl⟩) hS (fun q _ h => h.elim) (fun q h => h.elim) (fun gr u t H1 locs ht hvm hw hB hz1 hk1 hS => ?_)
  have hP : va_P (dC, dI) vwCl [(q0, .inr (2, [.null, .null]))] H1 := hP.kept (fun k q hq => hk1 q.1 (hP k q hq).lt (fun h => h))
  generalize H1 = H at hP hS ⊢
  refine W.widen (k := 1) (n := 2) (by omega) (by omega) ?_
  have hF := u_free hD hS hA
  refine va_callv (va_runI (As := [.int gr]) (rest := [.ref q0]) ⟨hx, hb, hml, hown, hts⟩ (ci_X2 l dC dI q0 H.size gr) (cwI 1 hts (gd_I mg_41) rfl rfl rfl (hts _ mg_32) (hts _ mg_39) (hts _ mg_40) rfl (by decide +kernel) ⟨Nat.le_of_ble_eq_true rfl, Nat.le_of_ble_eq_true rfl⟩) ⟨fun a U g mk q => by obtain ⟨q0, q1, qP, qK, qD⟩ := q; exact ⟨q0, q1, qP, va_K.moved (u := U) (U := U.calling g mk a) (Vm.Alike.refl U.vm) qK, qD⟩, fun U hU hW => ⟨rfl, by rw [hU], by rw [hU]; exact hP, va_K.moved hW.alike hK, hD.weaken (fun _ _ _ _ => trivial)⟩⟩ rfl rfl hl.1 rfl (lv_room (Nat.le_of_ble_eq_true rfl)) dL_law_9 ⟨Nat.le_of_ble_eq_true rfl, Nat.le_of_ble_eq_true rfl⟩) hS (fun q _ h => hF q h) hF (fun u1 t H1 locs ht hvm hw1 hB hz1 hk1 hS => ?_)
  obtain ⟨h, k, σ⟩ := u1
  obtain ⟨hh0, hIS, hIF⟩ := hw1
  obtain ⟨hPA0, hKA0, hDA0⟩ := hB
  rw [ht] at hPA0
  have hKA : va_K (dC, dI) vwCl (tA k) s := va_K.moved hvm.symm hKA0
  have hDA : va_D (fun q : Nat => s.heap.size ≤ q) (wA h k (gs_T gr) σ) := hDA0.weaken (fun _ q _ h => hF q.1 h)
  have hPA : va_P (dC, dI) vwCl (wA h k (gs_T gr) σ) H1 := hPA0
  clear hPA0 hKA0 hDA0
  have hh0 : h 0 = q0 := hh0
  have hIS : iniS (gs_T gr) σ := hIS
  have hIF : iniF σ := hIF
  subst hh0
  clear hP hD hF hk1
  generalize H1 = H at hPA hS ⊢
  refine W.widen (k := 13) (n := 421) (by omega) (by omega) ?_
  refine lv_astore_n (lv' := [(1, .ref (h 0)), (0, .ref b)]) hx hb dL_law_12 rfl hl (by decide) rfl (fun ls hl => ?_)
  refine va_new (ci := 3) (fs := [.int 0, .null, .null, .null, .null, .null, .null, .null, .null, .null, .int 0]) (C := RX3) (T := TX3) (N := 11) hx hb hts inG_X3 tyX3 tyX3_ok hown (hts _ mg_359) (hts _ mg_360) (hts _ mg_36) hKA hPA hDA hS hA rfl (fun j hj => by rcases (show j = 0 ∨ j = 1 ∨ j = 2 ∨ j = 3 ∨ j = 4 ∨ j = 5 ∨ j = 6 ∨ j = 7 ∨ j = 8 ∨ j = 9 ∨ j = 10 by omega) with rfl | rfl | rfl | rfl | rfl | rfl | rfl | rfl | rfl | rfl | rfl <;> rfl) (Nat.le_of_ble_eq_true rfl) (Nat.le_of_ble_eq_true rfl) dL_law_13 (fun q1 H hP hD hS => ?_)
  have hPA := hP.sub (ws' := wA h k (gs_T gr) σ) [0, 1, 2, 3, 4, 5, 6, 7, 8, 9, 10, 11, 12] rfl
  have hP1 := hP.sub (ws' := [(q1, .inr (3, [.int 0, .null, .null, .null, .null, .null, .null, .null, .null, .null, .int 0]))]) [13] rfl
  have hD1 := hD.sub (ws' := [(q1, .inr (3, [.int 0, .null, .null, .null, .null, .null, .null, .null, .null, .null, .int 0]))]) [13] (by decide) rfl
  have hap : u_ap [(q1, .inr (3, [.int 0, .null, .null, .null, .null, .null, .null, .null, .null, .null, .int 0]))] (wA h k (gs_T gr) σ) := by
    intro i j p q hp hq e
    match i, hp with
    | 0, hp =>
      cases hp
      have hj : j < 13 := (List.getElem?_eq_some_iff.mp hq).1
      have h2 : (wA h k (gs_T gr) σ ++ [(q1, .inr (3, [.int 0, .null, .null, .null, .null, .null, .null, .null, .null, .null, .int 0]))])[j]? = some q := by rw [List.getElem?_append_left hj]; exact hq
      have h3 := hD.1 13 j _ q rfl h2 e
      omega
    | i + 1, hp => simp at hp
  clear hP hD
  refine W.widen (k := 14) (n := 432) (by omega) (by omega) ?_
  refine lv_dup hx hb dL_law_16 rfl ?_
  refine lv_aload_n hx hb dL_law_17 rfl (lv_at hl 1 rfl) ?_
  refine lv_iconst (v := 0) hx hb dL_law_18 (by decide) ?_
  refine va_calli (va_runS (As := [.ref b, .int 0]) (rest := [.ref q1, .ref q1]) ⟨hx, hb, hml, hown, hts⟩ (cc_cell l b L xs (by omega)) (va_cwS 2 hts (gd_S mg_356 mg_357 mg_31 mg_358) rfl rfl rfl (by decide +kernel) ⟨Nat.le_of_ble_eq_true rfl, Nat.le_of_ble_eq_true rfl⟩) ⟨fun a U g mk q => ⟨q.1, va_X.moved (u := U) (U := U.calling g mk a) (Vm.Alike.refl U.vm) q.2.1, q.2.2⟩, fun U hU hW => ⟨rfl, by rw [hU]; exact va_X.moved hW.alike (hX.kept (hS.2.1 b hbl hbA)), by rw [hU]; exact Nat.lt_of_lt_of_le hbl hS.1⟩⟩ rfl rfl hl.1 rfl (lv_room (Nat.le_of_ble_eq_true rfl)) dL_law_19 ⟨Nat.le_of_ble_eq_true rfl, Nat.le_of_ble_eq_true rfl⟩) hS (fun q _ h => h.elim) (fun q h => h.elim) (fun gr2 u t H1 locs ht hvm hw2 hB hz1 hk1 hS => ?_)
  have eg : gr2 = gr := by rw [hw2, hw]
  subst eg
  have hP1 := hP1.kept (H1 := H1) (fun k q hq => hk1 q.1 (hP1 k q hq).lt (fun h => h))
  have hPA := hPA.kept (H1 := H1) (fun k q hq => hk1 q.1 (hPA k q hq).lt (fun h => h))
  clear hk1
  generalize H1 = H at hP1 hPA hS ⊢
  refine W.widen (k := 14) (n := 432) (by omega) (by omega) ?_
  have hF := u_free hD1 hS hA
  refine va_callv (va_runI (As := [.int gr2]) (rest := [.ref q1]) ⟨hx, hb, hml, hown, hts⟩ (ci_X3 l dC dI q1 H.size gr2) (cwI 1 hts (gd_I mg_363) rfl rfl rfl (hts _ mg_36) (hts _ mg_361) (hts _ mg_362) rfl (by decide +kernel) ⟨Nat.le_of_ble_eq_true rfl, Nat.le_of_ble_eq_true rfl⟩) ⟨fun a U g mk q => by obtain ⟨q0, q1, qP, qK, qD⟩ := q; exact ⟨q0, q1, qP, va_K.moved (u := U) (U := U.calling g mk a) (Vm.Alike.refl U.vm) qK, qD⟩, fun U hU hW => ⟨rfl, by rw [hU], by rw [hU]; exact hP1, va_K.moved hW.alike hK, hD1.weaken (fun _ _ _ _ => trivial)⟩⟩ rfl rfl hl.1 rfl (lv_room (Nat.le_of_ble_eq_true rfl)) dL_law_22 ⟨Nat.le_of_ble_eq_true rfl, Nat.le_of_ble_eq_true rfl⟩) hS (fun q _ h => hF q h) hF (fun u1 t H1 locs ht hvm hw1 hB hz1 hk1 hS => ?_)
  obtain ⟨g, q, τ⟩ := u1
  obtain ⟨hg0, hIB⟩ := hw1
  obtain ⟨hPB0, hKB0, hDB0⟩ := hB
  rw [ht] at hPB0
  have hKB : va_K (dC, dI) vwCl (tB q) s := va_K.moved hvm.symm hKB0
  have hX1 := u_keep hPA hap hk1 hDB0
  have hDB : va_D (fun q : Nat => s.heap.size ≤ q) (wB g q (gs_T gr2) τ) := hDB0.weaken (fun _ q _ h => hF q.1 h)
  have hPB : va_P (dC, dI) vwCl (wB g q (gs_T gr2) τ) H1 := hPB0
  have hPA2 := hX1.1
  have hap2 : u_ap (wA h k (gs_T gr2) σ) (wB g q (gs_T gr2) τ) := u_ap_symm hX1.2
  clear hPB0 hKB0 hDB0 hPA hap
  have hg0 : g 0 = q1 := hg0
  have hIB : iniB (gs_T gr2) τ := hIB
  subst hg0
  clear hX1 hk1 hF
  generalize H1 = H at hPA2 hPB hS ⊢
  refine W.widen (k := 600000) (n := 7302250) (by omega) (by omega) ?_
  refine lv_astore_n (lv' := [(2, .ref (g 0)), (1, .ref (h 0)), (0, .ref b)]) hx hb dL_law_25 rfl hl (by decide) rfl (fun ls hl => ?_)
  refine lv_iconst (v := 1) hx hb dL_law_26 (by decide) ?_
  refine lv_istore_n (lv' := [(3, .int 1), (2, .ref (g 0)), (1, .ref (h 0)), (0, .ref b)]) hx hb dL_law_27 rfl hl (by decide) rfl (fun ls hl => ?_)
  have hT3 := gs_T_3 gr2
  exact law_loop hL C0 (sim_create hT3) (sim_remove hT3) (sim_write hT3) (sim_read hT3) (sim_fail hT3) (sim_replace hT3) (sim_alter hT3) (sim_rebuild hT3) (sim_moveBack hT3) (sim_scrub hT3) (sim_file hT3) (sim_stripe hT3) (sim_disk hT3) (sim_count hT3) hKA hKB hZ (L + 6) 1 1 σ τ _ _ _ (by omega) (by omega) rfl (sim_init hT3 hIS hIF hIB) hPA2 hDA hPB hDB hap2 hS (lv_sub hl [3, 2, 1, 0] rfl)
-- ===== YOUR PART ENDS =====
set_option maxHeartbeats 4000000 in
theorem lw_walk (l : Launch) (b : Addr) (xs : List Int32) : MetFree l x (headSpec (Jvm.Cond.code x code maxLocals ret :: tables_1) room_1) (lw_P b xs) (fun _ _ _ _ _ => True) lw_Q := by
  refine MetFree.of_bodyS (code := code) (maxLocals := maxLocals) (ret := ret) (by decide) ?_ ?_
  · intro args s m h hn
    obtain ⟨meth, c, h1, h2, h3, h4, h5, h6, -, -⟩ := Cond.code_spec hn (atoms_spec (ws := Jvm.Cond.code x code maxLocals ret :: tables_1) h _ List.mem_cons_self)
    exact ⟨meth, c, h1, h2, h3, h4, h5, h6⟩
  · intro p e s m args below meth c s₁ B hml0 hP _
    obtain ⟨rfl, hx, hbd, hgv⟩ := hP
    obtain ⟨scr, harrAt, hlist, hof, hsmall⟩ := hx
    obtain ⟨hcb, hkn, -, -⟩ := State.arrayAt?_spec harrAt
    have hown : s.vm.findClass R_law = some m.cls := findClass_of_methodNamed B.named
    have hts0 : ∀ c ∈ (Jvm.Cond.code x code maxLocals ret :: tables_1), c.before #[Value.ref b] s = true := atoms_spec (ws := Jvm.Cond.code x code maxLocals ret :: tables_1) B.pre
    have hts : ∀ w ∈ lw_tbl, w.before #[Value.ref b] s = true := k2_hts_sels lw_privs (fun w hw => hts0 w (List.mem_cons_of_mem _ hw)) lw_privs_ok
    have hml : c.maxLocals = 4 := B.maxLocals_eq (hts0 _ List.mem_cons_self)
    have X₀ : Stand p l e room_1 s m #[Value.ref b] below meth c s₁ [] 0 0 := Stand.of_body B
    have hh0 : s₁.heap = s.heap := by rw [B.state]; rfl
    have hsz : scr.slots.size = xs.length := by rw [← Array.length_toList, hlist, List.length_map]
    have hval : ∀ j : Nat, j < xs.length → scr.slots[j]? = some (.int (xs.getD j 0)) := fun j hj => by
      rw [← Array.getElem?_toList, hlist]
      simp [hj]
    have hbl : b < s.heap.size := (Array.getElem?_eq_some_iff.mp hcb).1
    have hX : va_X b xs.length (fun j => xs.getD j 0) s s.heap := ⟨scr, hcb, hof, hkn, hsz, hval⟩
    have K : W p l e room_1 s m #[Value.ref b] below meth c s₁.heap [] 0 0 (lw_Z below #[Value.ref b] s) (entryFrame m ([Value.ref b] : List Value).toArray 4) := by
      rw [hh0]
      exact whole_start l hbd ⟨B.exec, B.bytes, B.returns, hml, hown, hts, hX, hbl, B.notSynchronized, hgv⟩
    obtain ⟨t, a1, o, b1, b2, b3⟩ := K s₁ rfl X₀
    exact ⟨t, o, a1, b1, b2, b3⟩
theorem lw_pre_spec {args : Array Value} {s : State} (h : (Jvm.Cond.and given_1 narrow_1).before args s = true) (hr : rest_1_c.before args s = true) : ∃ (b : Addr) (xs : List Int32), lw_P b xs args s := by
  have hs := flat_of_before _ h
  have hq := flat_of_before _ hr
  have hc : (Cond.count 1).before args s = true := hs _ (by decide +kernel)
  have harr : (Cond.arrayOf (.arg 0) .int).before args s = true := hs _ (by decide +kernel)
  have hle : (Cond.le (.length (.arg 0)) (.int 2561)).before args s = true := hs _ (by decide +kernel)
  have hlen : (Cond.isInt (.length (.arg 0))).before args s = true := hq _ (by decide +kernel)
  have hall : (Cond.all (.arg 0) (.isInt (.elem (.arg 0) (.index 0)))).before args s = true := hq _ (by decide +kernel)
  obtain ⟨b, xs, hb, hx⟩ := State.ints_of_pre rfl harr hlen hall
  have hsm : xs.length < 2 ^ 31 := hx.choose_spec.2.2.2
  have hev : (Term.length (.arg 0)).eval args s none [] s = some (.int xs.length.toInt32) := hx.length_eval hb
  have hv := Cond.le_ints hev (show (Term.int 2561).eval args s none [] s = some (.int 2561) from rfl)
  have hd : xs.length.toInt32 ≤ 2561 := by
    simpa [Cond.before, Cond.holds, hv] using hle
  have hN : xs.length ≤ 2561 := (Int32.ofNat_le_ofNat hsm (by decide)).mp (show Int32.ofNat xs.length ≤ Int32.ofNat 2561 from hd)
  exact ⟨b, xs, Cond.one_arg hc (show args[0]? = some (.ref b) from hb), hx, hN, h⟩
theorem lw_comes (l : Launch) : Comes l x (Jvm.Cond.code x code maxLocals ret :: tables_1) room_1 (fun tb e args s => Calls_1 tb e args s ∧ rest_1 tb e args s ∧ Pre_1 tb e args s)
    (fun _ _ args s o t => lw_Q args s o t) := by
  intro p e ha hc hk s m args below hf hfit hheap happ hpre
  obtain ⟨b, xs, hP⟩ := lw_pre_spec hpre.2.2 hpre.2.1
  obtain ⟨k, o, h1, h2, h3, hQ⟩ := lw_walk l b xs p e ha hc hk s m args below hf ((Spec.applies_iff_loose hf).mp happ).1 hP trivial
  exact ⟨k, o, h1, h2, h3, hQ⟩
theorem lw_frame {s t : State} {o : Outcome} {args : Array Value} (h : Framed s o t [] 600000 7302250) :
    Framed s o t (fieldLocs frame_1_writes args s ++ arrayLocs frame_1_arrays args s ++ staticLocs frame_1_statics s) 600000 7302250 := h
theorem lw_limb (L : Cond) (hL : ∀ (args : Array Value) (s t : State), L.after args s (.returned (some (.int 1))) t = true) :
    ArmFor flags0 classFile x code maxLocals ret World_1 tables_1 room_1 Calls_1 rest_1 Pre_1
      (fun tb e a s o t => postC L tb e a s o t ∧ Framed s o t (fieldLocs frame_1_writes a s ++ arrayLocs frame_1_arrays a s ++ staticLocs frame_1_statics s) 600000 7302250) := by
  intro l _ _ _ p e ha hc hk s m args below hf hfit hheap happ hpre
  obtain ⟨k, o, h1, h2, h3, rfl, hF⟩ := lw_comes l p e ha hc hk s m args below hf hfit hheap happ hpre
  exact ⟨k, _, h1, h2, h3, hL args s _, lw_frame hF⟩
theorem i_vc : Claimed_1_1 ∧ Claimed_1_2 := ⟨lw_limb limb_1_1 (fun args s t => by simp [limb_1_1, Cond.after, Cond.holds, Cond.value]), lw_limb limb_1_2 (fun args s t => Cond.after_iff.mpr (by
  first | (rw [show limb_1_2 = Cond.eq .result (.int 1) from rfl, Cond.eq_ints (x := 1) (y := 1) rfl rfl]; simp; done) | (simp [limb_1_2, Cond.value, Term.eval]; done)))⟩
