/-! THE CLAIM OUT OF ONE WALK OF THE LAW'S BODY. Your part is whole_start (and what it stands on); all else here is the same for every law, but numbers. -/
def R_law : String := "SpreadParityLaw"
def lw_P (b : Addr) (xs : List Int32) (args : Array Value) (s : State) : Prop := args = #[.ref b] ∧ s.IntsAt b xs ∧ xs.length ≤ 2561 ∧ (Jvm.Cond.and given_1 narrow_1).before args s = true
def lw_Q (_ : Array Value) (s : State) (o : Outcome) (t : State) : Prop := o = .returned (some (.int 1)) ∧ Framed s o t [] 600000 7302250
def lw_Z (below : List Frame) (a : Array Value) (s : State) : State → Prop := fun t => ∃ o, t.status = .running ∧ Ended t below o ∧ lw_Q a s o t
/-- the law's own end, with 1 on the stack, nothing written that was there before, its room as the claim has it -/
theorem lw_ret {p : Program} {l : Launch} {e : Env} {s : State} {m : MethodId} {below : List Frame} {meth : Method} {c : Code} {b : Nat} (hx : p.tables.exec = Jvm.exec) (hb : c.code = code) (hr : meth.sig.returnType = ret) (hlocks : meth.locks = false) {pc : Nat} {H : Heap} {ls : Array Slot} (hdg : decode code pc = .ok (.ireturn, 1)) : W p l e room_1 s m #[Value.ref b] below meth c H [] 600000 7302250 (lw_Z below #[Value.ref b] s) (F0 m pc ls [.int 1]) := by
  intro T hT X
  obtain ⟨fs, hret, hrun, hended, hW, hframe⟩ := X.leave (v := some (.int 1)) (hlocks := hlocks) (fun h => by rw [hr] at h; cases h)
  have hmeth' : T.vm.method? m = some meth := X.method'
  refine ⟨T.setFrames fs, ?_, .returned (some (.int 1)), hrun, hended, rfl, ⟨_, rfl⟩, hW, hframe⟩
  jvm_step X.here [X.here.top, hx, hb, hdg, hmeth', hr, ret, narrow_b1]
  (try refine ⟨rfl, ?_⟩); (try refine ⟨rfl, ?_⟩)
  first | (intro acts; rw [hret _ acts rfl rfl rfl]) | rw [hret _ _ rfl rfl rfl]
  exact Steps.refl _
/-- what holds at the law's entry: the machine, the code, the tables' words (any of lw_tbl by 'hts w (by decide +kernel)'), the script of L ints xs at the cell b, what the Statement gives of the start (any of its parts by flat_of_before) -/
def lw_At (p : Program) (s : State) (m : MethodId) (meth : Method) (c : Code) (b L : Nat) (xs : Nat → Int32) : Prop :=
  p.tables.exec = Jvm.exec ∧ c.code = code ∧ meth.sig.returnType = ret ∧ c.maxLocals = 4 ∧ s.vm.findClass R_law = some m.cls ∧ (∀ w ∈ lw_tbl, w.before #[Value.ref b] s = true) ∧ va_X b L xs s s.heap ∧ b < s.heap.size ∧ meth.locks = false ∧ (Jvm.Cond.and given_1 narrow_1).before #[Value.ref b] s = true
/-! two worlds side by side: one is called upon, the other stays -/
def u_ap (w1 w2 : va_W) : Prop := ∀ (i j : Nat) (p q : Nat × va_E), w1[i]? = some p → w2[j]? = some q → p.1 ≠ q.1
theorem u_ap_symm {w1 w2 : va_W} (h : u_ap w1 w2) : u_ap w2 w1 := fun i j p q hp hq e => h j i q p hq hp e.symm
theorem u_keep {D : va_G} {cl : List vw_C} {ws X w1 : va_W} {H H1 : Heap} (hPX : va_P D cl X H) (hap : u_ap ws X) (hk : ∀ q : Nat, q < H.size → ¬ va_A ws H.size q → H1[q]? = H[q]?) (hD1 : va_D (va_A ws H.size) w1) : va_P D cl X H1 ∧ u_ap w1 X := by
  have key : ∀ (k : Nat) (q : Nat × va_E), X[k]? = some q → ¬ va_A ws H.size q.1 := by
    intro k q hq h
    rcases h with ⟨k2, e, h⟩ | h
    · exact hap k2 k (q.1, e) q h hq rfl
    · have hl := (hPX k q hq).lt
      omega
  refine ⟨fun k q hq => (hPX k q hq).kept (hk q.1 (hPX k q hq).lt (key k q hq)), fun i j p q hp hq e => ?_⟩
  exact key j q hq (e ▸ hD1.2 i p hp)
section UTWO
variable {p : Program} {l : Launch} {e : Env} {R : Room} {s : State} {m : MethodId} {args : Array Value} {below : List Frame} {meth : Method} {c : Code} {H : Heap} {locs : List Loc} {cells slots : Nat} {Q : State → Prop}
variable {pc : Nat} {ls : Array Slot} {rest st0 : List Value} {a : Array Value} {A : Nat → Prop} {H0 : Heap} {D : va_G} {cl : List vw_C} {tys : List (ClassId × FieldType)} {w : gS → va_W} {σ σ1 : gS} {X : va_W}
theorem u2_calli {r1 : Int32} (hr : va_Run p l e R s m args below meth c H locs cells slots 0 0 (F0 m pc ls st0) rest (va_Qi (fun r u => (r, u) = (r1, σ1)) (uAt D cl tys w (va_A (w σ) H.size)) (va_A (w σ) H.size) a) (va_A (w σ) H.size)) (hS : va_S A H0 H locs) (hF : ∀ q, va_A (w σ) H.size q → A q) (hPX : va_P D cl X H) (hap : u_ap (w σ) X)
    (kk : ∀ (H1 : Heap) (locs1 : List Loc), va_P D cl (w σ1) H1 → va_D A (w σ1) → va_S A H0 H1 locs1 → va_P D cl X H1 → u_ap (w σ1) X → W p l e R s m args below meth c H1 locs1 cells slots Q (F0 m (pc + 3) ls (.int r1 :: rest))) : W p l e R s m args below meth c H locs cells slots Q (F0 m pc ls st0) := by
  refine va_calli hr hS (fun q _ h => hF q h) hF (fun r u t H1 locs1 ht hvm hw hB hz hk hS1 => ?_)
  cases hw
  obtain ⟨hP1, hK1, hD1⟩ := hB
  rw [ht] at hP1
  have hX1 := u_keep hPX hap hk hD1
  exact kk H1 locs1 hP1 (hD1.weaken (fun _ q _ h => hF q.1 h)) hS1 hX1.1 hX1.2
theorem u2_calll {r1 : Int64} (hr : va_Run p l e R s m args below meth c H locs cells slots 0 0 (F0 m pc ls st0) rest (va_Ql (fun r u => (r, u) = (r1, σ1)) (uAt D cl tys w (va_A (w σ) H.size)) (va_A (w σ) H.size) a) (va_A (w σ) H.size)) (hS : va_S A H0 H locs) (hF : ∀ q, va_A (w σ) H.size q → A q) (hPX : va_P D cl X H) (hap : u_ap (w σ) X)
    (kk : ∀ (H1 : Heap) (locs1 : List Loc), va_P D cl (w σ1) H1 → va_D A (w σ1) → va_S A H0 H1 locs1 → va_P D cl X H1 → u_ap (w σ1) X → W p l e R s m args below meth c H1 locs1 cells slots Q (F0 m (pc + 3) ls (.long r1 :: rest))) : W p l e R s m args below meth c H locs cells slots Q (F0 m pc ls st0) := by
  refine va_calll hr hS (fun q _ h => hF q h) hF (fun r u t H1 locs1 ht hvm hw hB hz hk hS1 => ?_)
  cases hw
  obtain ⟨hP1, hK1, hD1⟩ := hB
  rw [ht] at hP1
  have hX1 := u_keep hPX hap hk hD1
  exact kk H1 locs1 hP1 (hD1.weaken (fun _ q _ h => hF q.1 h)) hS1 hX1.1 hX1.2
end UTWO
/-- both sides answer alike, and go on being related -/
def sm1 {α : Type} (f g : Int32 → gS → Option (α × gS)) (RR : gS → gS → Prop) : Prop := ∀ σ τ a, RR σ τ → ∃ r σ1 τ1, f a σ = some (r, σ1) ∧ g a τ = some (r, τ1) ∧ RR σ1 τ1
def sm2 {α : Type} (f g : Int32 → Int32 → gS → Option (α × gS)) (RR : gS → gS → Prop) : Prop := ∀ σ τ a b, RR σ τ → ∃ r σ1 τ1, f a b σ = some (r, σ1) ∧ g a b τ = some (r, τ1) ∧ RR σ1 τ1
def sm3 {α : Type} (f g : Int32 → Int32 → Int32 → gS → Option (α × gS)) (RR : gS → gS → Prop) : Prop := ∀ σ τ a b c, RR σ τ → ∃ r σ1 τ1, f a b c σ = some (r, σ1) ∧ g a b c τ = some (r, τ1) ∧ RR σ1 τ1
def sm4 {α : Type} (f g : Int32 → Int32 → Int32 → Int32 → gS → Option (α × gS)) (RR : gS → gS → Prop) : Prop := ∀ σ τ a b c d, RR σ τ → ∃ r σ1 τ1, f a b c d σ = some (r, σ1) ∧ g a b c d τ = some (r, τ1) ∧ RR σ1 τ1
theorem lg_same (x : Int64) : lg_cmp x x = 0 := by
  unfold lg_cmp
  rw [if_neg (fun h => absurd h (by rw [gt_iff_lt, Int64.lt_iff_toInt_lt]; omega)), if_pos rfl]
set_option maxHeartbeats 4000000 in
set_option maxRecDepth 100000 in
/-- cell(script, 0): the first int, or 0 -/
theorem cc_cell (l : Launch) (b L : Nat) (xs : Nat → Int32) (hL : L < 2 ^ 31) : Met l yL_cell wsL_cell ({ frames := 0, cells := 0, slots := 0, locals := 0 }) (va_Pc [.ref b, .int 0] (fun U => va_X b L xs U U.heap ∧ b < U.heap.size)) (va_Qi (fun (r : Int32) (_ : Unit) => r = if 0 < L then xs 0 else 0) (fun _ _ => True) (fun _ => False)) 0 0 (fun _ => False) := by
  refine Met.ofW (cc := cL_cell) (maxL := 2) (ret := (some .int)) (by decide) rfl ?_
  intro p e s m args below meth c s₁ B hml hv
  obtain ⟨rfl, hX, hbl⟩ := hv
  have hx := B.exec
  have hb := B.bytes
  have hr := B.returns
  have hlocks := B.notSynchronized
  have hbA : ¬ (fun _ : Nat => False) b := fun h => h
  have hS : va_S (fun _ : Nat => False) s.heap s.heap [] := va_S.rf
  have hl := lv_entry ([.ref b, .int 0]) (n := 2) (Nat.le_of_ble_eq_true rfl)
  rw [lg_entry_eq]
  generalize (lg_sl ([.ref b, .int 0]) ++ List.replicate (2 - (lg_sl ([.ref b, .int 0])).length) Slot.unset).toArray = ls at hl ⊢
  have hl : lv_has ls 2 [(0, .ref b), (1, .int 0)] := hl
  refine lv_iload_n hx hb dL_cell_0 rfl (lv_at hl 1 rfl) ?_
  refine lv_aload_n hx hb dL_cell_1 rfl (lv_at hl 0 rfl) ?_
  refine va_slen hx hb hX hbl hbA hS dL_cell_2 ?_
  refine lv_icmp_ge (tgt := 12) hx hb dL_cell_3 (by decide) (fun hq => ?_) (fun hq => ?_)
  · have h0 : ¬ 0 < L := fun q => nI_ge (a := 0) q hL hq
    refine lv_iconst (v := 0) hx hb dL_cell_12 (by decide) ?_
    exact W.iret (v := 0) hx hb hr (fun t ht hW => ⟨⟨0, (), rfl, by rw [if_neg h0], trivial⟩, hS.F ht⟩) hS.2.2 dL_cell_13
  · have h0 : 0 < L := by
      rcases Nat.eq_zero_or_pos L with q | q
      · exact absurd (by rw [q]; exact Int32.le_refl _) hq
      · exact q
    have hin : vp_in 0 L := vp_in_nI (n := 0) h0 hL
    refine lv_aload_n hx hb dL_cell_6 rfl (lv_at hl 0 rfl) ?_
    refine lv_iload_n hx hb dL_cell_7 rfl (lv_at hl 1 rfl) ?_
    refine va_sld hx hb hX hbl hbA hS hin dL_cell_8 ?_
    refine lv_goto (tgt := 13) hx hb dL_cell_9 (by decide) ?_
    exact W.iret (v := xs (0 : Int32).toNatClampNeg) hx hb hr (fun t ht hW => ⟨⟨_, (), rfl, by rw [if_pos h0]; rfl, trivial⟩, hS.F ht⟩) hS.2.2 dL_cell_13
set_option maxHeartbeats 8000000 in
set_option maxRecDepth 100000 in
/-- THE LAW'S LOOP, for any relation that all calls keep -/
theorem law_loop {p : Program} {l : Launch} {e : Env} {s : State} {m : MethodId} {below : List Frame} {meth : Method} {c : Code} {dC : Nat → ClassId} {dI : Nat → Nat → Nat} {b L : Nat} {xs : Nat → Int32} (hL : L ≤ 2561) (C0 : lw_At p s m meth c b L xs) {T : Nat} {RR : gS → gS → Prop} (hs_create : sm2 (fn_X2_create T) (fn_X3_create T) RR) (hs_remove : sm1 (fn_X2_remove T) (fn_X3_remove T) RR) (hs_write : sm4 (fn_X2_write T) (fn_X3_write T) RR) (hs_read : sm2 (fn_X2_read T) (fn_X3_read T) RR) (hs_fail : sm1 (fn_X2_fail T) (fn_X3_fail T) RR) (hs_replace : sm1 (fn_X2_replace T) (fn_X3_replace T) RR) (hs_alter : sm3 (fn_X2_alter T) (fn_X3_alter T) RR) (hs_rebuild : sm1 (fn_X2_rebuild T) (fn_X3_rebuild T) RR) (hs_moveBack : sm1 (fn_X2_moveBack T) (fn_X3_moveBack T) RR) (hs_scrub : sm1 (fn_X2_scrub T) (fn_X3_scrub T) RR) (hs_file : sm2 (fn_X2_file T) (fn_X3_file T) RR) (hs_stripe : sm2 (fn_X2_stripe T) (fn_X3_stripe T) RR) (hs_disk : sm2 (fn_X2_disk T) (fn_X3_disk T) RR) (hs_count : sm1 (fn_X2_count T) (fn_X3_count T) RR) {h g : Nat → Nat} {k q : Nat → ClassId} (hKA : va_K (dC, dI) vwCl (tA k) s) (hKB : va_K (dC, dI) vwCl (tB q) s) (hZ : zA (fun q : Nat => s.heap.size ≤ q) s s.heap) :
    ∀ (n i : Nat) (x3 : Int32) (σ τ : gS) (H : Heap) (locs : List Loc) (ls : Array Slot), i ≤ L + 5 → L + 6 ≤ i + n → x3 = nI i → RR σ τ → va_P (dC, dI) vwCl (wA h k T σ) H → va_D (fun q : Nat => s.heap.size ≤ q) (wA h k T σ) → va_P (dC, dI) vwCl (wB g q T τ) H → va_D (fun q : Nat => s.heap.size ≤ q) (wB g q T τ) → u_ap (wA h k T σ) (wB g q T τ) → va_S (fun q : Nat => s.heap.size ≤ q) s.heap H locs → lv_has ls 4 [(0, .ref b), (1, .ref (h 0)), (2, .ref (g 0)), (3, .int x3)] → W p l e room_1 s m #[Value.ref b] below meth c H locs 600000 7302250 (lw_Z below #[Value.ref b] s) (F0 m 28 ls []) := by
  obtain ⟨hx, hb, hr, hml, hown, hts0, hX, hbl, hlocks, hgv⟩ := C0
  have hts : ∀ w ∈ gG, w.before #[Value.ref b] s = true := fun w h => hts0 w (gG_in w h)
  have hown : s.vm.findClass RL = some m.cls := hown
  have hA : ∀ q : Nat, s.heap.size ≤ q → (fun q : Nat => s.heap.size ≤ q) q := fun _ h => h
  have hbA : ¬ (fun q : Nat => s.heap.size ≤ q) b := Nat.not_le.mpr hbl
  intro n
  induction n with
  | zero => intro i x3 σ τ H locs ls h1 h2; exact absurd h2 (by omega)
  | succ n ih =>
    intro i x3 σ τ H locs ls hi hin ex3 hR hPA hDA hPB hDB hap hS hl
    refine lv_iload_n hx hb dL_law_28 rfl (lv_at hl 3 rfl) ?_
    refine lv_aload_n hx hb dL_law_29 rfl (lv_at hl 0 rfl) ?_
    refine va_slen hx hb hX hbl hbA hS dL_law_30 ?_
    refine lv_iconst (v := 5) hx hb dL_law_31 (by decide) ?_
    refine lv_isub hx hb dL_law_32 ?_
    have hs5 : (Int32.ofNat L - 5).toInt = (L : Int) - 5 := pk_sub_toInt (a := L) (b := 5) (by omega) (by omega)
    have hi3 : x3.toInt = (i : Int) := by rw [ex3]; exact nI_toInt (by omega)
    refine lv_icmp_gt (tgt := 541) hx hb dL_law_33 (by decide) (fun hq => ?_) (fun hq => ?_)
    · refine lv_iconst (v := 1) hx hb dL_law_541 (by decide) ?_
      refine va_forget (fun q hq => hS.2.2 q hq) ?_
      exact lw_ret hx hb hr hlocks dL_law_542
    · have hlt : i + 5 ≤ L := by
        rw [Int32.lt_iff_toInt_lt, hs5, hi3] at hq
        omega
      have v0 : vp_in x3 L := by rw [ex3]; exact vp_in_nI (by omega) (by omega)
      have v1 : vp_in (x3 + 1) L := by rw [ex3]; exact (show vp_in (nI i + nI 1) L by rw [nI_add]; exact vp_in_nI (by omega) (by omega))
      have v2 : vp_in (x3 + 2) L := by rw [ex3]; exact (show vp_in (nI i + nI 2) L by rw [nI_add]; exact vp_in_nI (by omega) (by omega))
      have v3 : vp_in (x3 + 3) L := by rw [ex3]; exact (show vp_in (nI i + nI 3) L by rw [nI_add]; exact vp_in_nI (by omega) (by omega))
      have v4 : vp_in (x3 + 4) L := by rw [ex3]; exact (show vp_in (nI i + nI 4) L by rw [nI_add]; exact vp_in_nI (by omega) (by omega))
      have hgo : ∀ (σ τ : gS) (H : Heap) (locs : List Loc) (ls : Array Slot), RR σ τ → va_P (dC, dI) vwCl (wA h k T σ) H → va_D (fun q : Nat => s.heap.size ≤ q) (wA h k T σ) → va_P (dC, dI) vwCl (wB g q T τ) H → va_D (fun q : Nat => s.heap.size ≤ q) (wB g q T τ) → u_ap (wA h k T σ) (wB g q T τ) → va_S (fun q : Nat => s.heap.size ≤ q) s.heap H locs → lv_has ls 4 [(0, .ref b), (1, .ref (h 0)), (2, .ref (g 0)), (3, .int x3)] → W p l e room_1 s m #[Value.ref b] below meth c H locs 600000 7302250 (lw_Z below #[Value.ref b] s) (F0 m 535 ls []) := by
        intro σ τ H locs ls hR hPA hDA hPB hDB hap hS hl
        refine lv_iinc (v := x3 + 5) (lv' := [(3, .int (x3 + 5)), (0, .ref b), (1, .ref (h 0)), (2, .ref (g 0))]) hx hb dL_law_535 hl (k := 3) rfl rfl (by decide) rfl (fun ls hl => ?_)
        refine lv_goto (tgt := 28) hx hb dL_law_538 (by decide) ?_
        exact ih (i + 5) (x3 + 5) σ τ _ _ _ (by omega) (by omega) (by rw [ex3]; exact nI_add i 5) hR hPA hDA hPB hDB hap hS (lv_sub hl [1, 2, 3, 0] rfl)
      refine lv_aload_n hx hb dL_law_36 rfl (lv_at hl 0 rfl) ?_
      refine lv_iload_n hx hb dL_law_37 rfl (lv_at hl 3 rfl) ?_
      refine va_sld hx hb hX hbl hbA hS v0 dL_law_38 ?_
      refine lv_bipush (v := 15) hx hb dL_law_39 (by decide) ?_
      refine lv_iand hx hb dL_law_41 ?_
      refine lv_topi (fun sel esel => ?_)
      clear esel
      by_cases hq0 : sel = 0
      · refine lv_tableIn (tgt := 112) hx hb dL_law_42 (by rw [hq0]; decide) (by rw [hq0]; decide) (by rw [hq0]; rfl) (by decide) ?_
        obtain ⟨r, σ1, τ1, e1, e2, hR1⟩ := hs_create σ τ (xs (x3 + 1).toNatClampNeg) (xs (x3 + 2).toNatClampNeg) hR
        refine lv_aload_n hx hb dL_law_112 rfl (lv_at hl 1 rfl) ?_
        refine lv_aload_n hx hb dL_law_113 rfl (lv_at hl 0 rfl) ?_
        refine lv_iload_n hx hb dL_law_114 rfl (lv_at hl 3 rfl) ?_
        refine lv_iconst (v := 1) hx hb dL_law_115 (by decide) ?_
        refine lv_iadd hx hb dL_law_116 ?_
        refine va_sld hx hb hX hbl hbA hS v1 dL_law_117 ?_
        refine lv_aload_n hx hb dL_law_118 rfl (lv_at hl 0 rfl) ?_
        refine lv_iload_n hx hb dL_law_119 rfl (lv_at hl 3 rfl) ?_
        refine lv_iconst (v := 2) hx hb dL_law_120 (by decide) ?_
        refine lv_iadd hx hb dL_law_121 ?_
        refine va_sld hx hb hX hbl hbA hS v2 dL_law_122 ?_
        have hF := u_free hDA hS hA
        refine u2_calli (va_runV (As := [.int (xs (x3 + 1).toNatClampNeg), .int (xs (x3 + 2).toNatClampNeg)]) (rest := []) ⟨hx, hb, hml, hown, hts⟩ (ct_X2_create l dC dI h k T σ H.size (xs (x3 + 1).toNatClampNeg) (xs (x3 + 2).toNatClampNeg) _ e1) (cwV 2 hts (gd_V mg_79 mg_80 mg_81 mg_32 mg_82) rfl rfl rfl (by decide +kernel) ⟨Nat.le_of_ble_eq_true rfl, Nat.le_of_ble_eq_true rfl⟩) (u_preV zA_g hKA hPA hDA hS hF hZ (va_recv hKA hPA (ci := 2) (q0 := 0) rfl rfl)) rfl rfl hl.1 rfl (lv_room (Nat.le_of_ble_eq_true rfl)) dL_law_123 ⟨Nat.le_of_ble_eq_true rfl, Nat.le_of_ble_eq_true rfl⟩) hS hF hPB hap (fun H locs hPA hDA hS hPB hap => ?_)
        refine lv_aload_n hx hb dL_law_126 rfl (lv_at hl 2 rfl) ?_
        refine lv_aload_n hx hb dL_law_127 rfl (lv_at hl 0 rfl) ?_
        refine lv_iload_n hx hb dL_law_128 rfl (lv_at hl 3 rfl) ?_
        refine lv_iconst (v := 1) hx hb dL_law_129 (by decide) ?_
        refine lv_iadd hx hb dL_law_130 ?_
        refine va_sld hx hb hX hbl hbA hS v1 dL_law_131 ?_
        refine lv_aload_n hx hb dL_law_132 rfl (lv_at hl 0 rfl) ?_
        refine lv_iload_n hx hb dL_law_133 rfl (lv_at hl 3 rfl) ?_
        refine lv_iconst (v := 2) hx hb dL_law_134 (by decide) ?_
        refine lv_iadd hx hb dL_law_135 ?_
        refine va_sld hx hb hX hbl hbA hS v2 dL_law_136 ?_
        have hF := u_free hDB hS hA
        refine u2_calli (va_runV (As := [.int (xs (x3 + 1).toNatClampNeg), .int (xs (x3 + 2).toNatClampNeg)]) (rest := [.int r]) ⟨hx, hb, hml, hown, hts⟩ (ct_X3_create l dC dI g q T τ H.size (xs (x3 + 1).toNatClampNeg) (xs (x3 + 2).toNatClampNeg) _ e2) (cwV 2 hts (gd_V mg_376 mg_377 mg_378 mg_36 mg_379) rfl rfl rfl (by decide +kernel) ⟨Nat.le_of_ble_eq_true rfl, Nat.le_of_ble_eq_true rfl⟩) (u_preV zB_g hKB hPB hDB hS hF trivial (va_recv hKB hPB (ci := 3) (q0 := 0) rfl rfl)) rfl rfl hl.1 rfl (lv_room (Nat.le_of_ble_eq_true rfl)) dL_law_137 ⟨Nat.le_of_ble_eq_true rfl, Nat.le_of_ble_eq_true rfl⟩) hS hF hPA (u_ap_symm hap) (fun H locs hPB hDB hS hPA hap2 => ?_)
        have hap := u_ap_symm hap2
        refine lv_icmp_eq (tgt := 535) hx hb dL_law_140 (by decide) (fun _ => ?_) (fun hne => absurd rfl hne)
        exact hgo σ1 τ1 _ _ _ hR1 hPA hDA hPB hDB hap hS hl
      · skip
        by_cases hq1 : sel = 1
        · refine lv_tableIn (tgt := 145) hx hb dL_law_42 (by rw [hq1]; decide) (by rw [hq1]; decide) (by rw [hq1]; rfl) (by decide) ?_
          obtain ⟨r, σ1, τ1, e1, e2, hR1⟩ := hs_remove σ τ (xs (x3 + 1).toNatClampNeg) hR
          refine lv_aload_n hx hb dL_law_145 rfl (lv_at hl 1 rfl) ?_
          refine lv_aload_n hx hb dL_law_146 rfl (lv_at hl 0 rfl) ?_
          refine lv_iload_n hx hb dL_law_147 rfl (lv_at hl 3 rfl) ?_
          refine lv_iconst (v := 1) hx hb dL_law_148 (by decide) ?_
          refine lv_iadd hx hb dL_law_149 ?_
          refine va_sld hx hb hX hbl hbA hS v1 dL_law_150 ?_
          have hF := u_free hDA hS hA
          refine u2_calli (va_runV (As := [.int (xs (x3 + 1).toNatClampNeg)]) (rest := []) ⟨hx, hb, hml, hown, hts⟩ (ct_X2_remove l dC dI h k T σ H.size (xs (x3 + 1).toNatClampNeg) _ e1) (cwV 1 hts (gd_V mg_132 mg_133 mg_134 mg_32 mg_135) rfl rfl rfl (by decide +kernel) ⟨Nat.le_of_ble_eq_true rfl, Nat.le_of_ble_eq_true rfl⟩) (u_preV zA_g hKA hPA hDA hS hF hZ (va_recv hKA hPA (ci := 2) (q0 := 0) rfl rfl)) rfl rfl hl.1 rfl (lv_room (Nat.le_of_ble_eq_true rfl)) dL_law_151 ⟨Nat.le_of_ble_eq_true rfl, Nat.le_of_ble_eq_true rfl⟩) hS hF hPB hap (fun H locs hPA hDA hS hPB hap => ?_)
          refine lv_aload_n hx hb dL_law_154 rfl (lv_at hl 2 rfl) ?_
          refine lv_aload_n hx hb dL_law_155 rfl (lv_at hl 0 rfl) ?_
          refine lv_iload_n hx hb dL_law_156 rfl (lv_at hl 3 rfl) ?_
          refine lv_iconst (v := 1) hx hb dL_law_157 (by decide) ?_
          refine lv_iadd hx hb dL_law_158 ?_
          refine va_sld hx hb hX hbl hbA hS v1 dL_law_159 ?_
          have hF := u_free hDB hS hA
          refine u2_calli (va_runV (As := [.int (xs (x3 + 1).toNatClampNeg)]) (rest := [.int r]) ⟨hx, hb, hml, hown, hts⟩ (ct_X3_remove l dC dI g q T τ H.size (xs (x3 + 1).toNatClampNeg) _ e2) (cwV 1 hts (gd_V mg_399 mg_396 mg_397 mg_36 mg_398) rfl rfl rfl (by decide +kernel) ⟨Nat.le_of_ble_eq_true rfl, Nat.le_of_ble_eq_true rfl⟩) (u_preV zB_g hKB hPB hDB hS hF trivial (va_recv hKB hPB (ci := 3) (q0 := 0) rfl rfl)) rfl rfl hl.1 rfl (lv_room (Nat.le_of_ble_eq_true rfl)) dL_law_160 ⟨Nat.le_of_ble_eq_true rfl, Nat.le_of_ble_eq_true rfl⟩) hS hF hPA (u_ap_symm hap) (fun H locs hPB hDB hS hPA hap2 => ?_)
          have hap := u_ap_symm hap2
          refine lv_icmp_eq (tgt := 535) hx hb dL_law_163 (by decide) (fun _ => ?_) (fun hne => absurd rfl hne)
          exact hgo σ1 τ1 _ _ _ hR1 hPA hDA hPB hDB hap hS hl
        · skip
          by_cases hq2 : sel = 2
          · refine lv_tableIn (tgt := 168) hx hb dL_law_42 (by rw [hq2]; decide) (by rw [hq2]; decide) (by rw [hq2]; rfl) (by decide) ?_
            obtain ⟨r, σ1, τ1, e1, e2, hR1⟩ := hs_write σ τ (xs (x3 + 1).toNatClampNeg) (xs (x3 + 2).toNatClampNeg) (xs (x3 + 3).toNatClampNeg) (xs (x3 + 4).toNatClampNeg) hR
            refine lv_aload_n hx hb dL_law_168 rfl (lv_at hl 1 rfl) ?_
            refine lv_aload_n hx hb dL_law_169 rfl (lv_at hl 0 rfl) ?_
            refine lv_iload_n hx hb dL_law_170 rfl (lv_at hl 3 rfl) ?_
            refine lv_iconst (v := 1) hx hb dL_law_171 (by decide) ?_
            refine lv_iadd hx hb dL_law_172 ?_
            refine va_sld hx hb hX hbl hbA hS v1 dL_law_173 ?_
            refine lv_aload_n hx hb dL_law_174 rfl (lv_at hl 0 rfl) ?_
            refine lv_iload_n hx hb dL_law_175 rfl (lv_at hl 3 rfl) ?_
            refine lv_iconst (v := 2) hx hb dL_law_176 (by decide) ?_
            refine lv_iadd hx hb dL_law_177 ?_
            refine va_sld hx hb hX hbl hbA hS v2 dL_law_178 ?_
            refine lv_aload_n hx hb dL_law_179 rfl (lv_at hl 0 rfl) ?_
            refine lv_iload_n hx hb dL_law_180 rfl (lv_at hl 3 rfl) ?_
            refine lv_iconst (v := 3) hx hb dL_law_181 (by decide) ?_
            refine lv_iadd hx hb dL_law_182 ?_
            refine va_sld hx hb hX hbl hbA hS v3 dL_law_183 ?_
            refine lv_aload_n hx hb dL_law_184 rfl (lv_at hl 0 rfl) ?_
            refine lv_iload_n hx hb dL_law_185 rfl (lv_at hl 3 rfl) ?_
            refine lv_iconst (v := 4) hx hb dL_law_186 (by decide) ?_
            refine lv_iadd hx hb dL_law_187 ?_
            refine va_sld hx hb hX hbl hbA hS v4 dL_law_188 ?_
            have hF := u_free hDA hS hA
            refine u2_calli (va_runV (As := [.int (xs (x3 + 1).toNatClampNeg), .int (xs (x3 + 2).toNatClampNeg), .int (xs (x3 + 3).toNatClampNeg), .int (xs (x3 + 4).toNatClampNeg)]) (rest := []) ⟨hx, hb, hml, hown, hts⟩ (ct_X2_write l dC dI h k T σ H.size (xs (x3 + 1).toNatClampNeg) (xs (x3 + 2).toNatClampNeg) (xs (x3 + 3).toNatClampNeg) (xs (x3 + 4).toNatClampNeg) _ e1) (cwV 4 hts (gd_V mg_137 mg_138 mg_139 mg_32 mg_140) rfl rfl rfl (by decide +kernel) ⟨Nat.le_of_ble_eq_true rfl, Nat.le_of_ble_eq_true rfl⟩) (u_preV zA_g hKA hPA hDA hS hF hZ (va_recv hKA hPA (ci := 2) (q0 := 0) rfl rfl)) rfl rfl hl.1 rfl (lv_room (Nat.le_of_ble_eq_true rfl)) dL_law_189 ⟨Nat.le_of_ble_eq_true rfl, Nat.le_of_ble_eq_true rfl⟩) hS hF hPB hap (fun H locs hPA hDA hS hPB hap => ?_)
            refine lv_aload_n hx hb dL_law_192 rfl (lv_at hl 2 rfl) ?_
            refine lv_aload_n hx hb dL_law_193 rfl (lv_at hl 0 rfl) ?_
            refine lv_iload_n hx hb dL_law_194 rfl (lv_at hl 3 rfl) ?_
            refine lv_iconst (v := 1) hx hb dL_law_195 (by decide) ?_
            refine lv_iadd hx hb dL_law_196 ?_
            refine va_sld hx hb hX hbl hbA hS v1 dL_law_197 ?_
            refine lv_aload_n hx hb dL_law_198 rfl (lv_at hl 0 rfl) ?_
            refine lv_iload_n hx hb dL_law_199 rfl (lv_at hl 3 rfl) ?_
            refine lv_iconst (v := 2) hx hb dL_law_200 (by decide) ?_
            refine lv_iadd hx hb dL_law_201 ?_
            refine va_sld hx hb hX hbl hbA hS v2 dL_law_202 ?_
            refine lv_aload_n hx hb dL_law_203 rfl (lv_at hl 0 rfl) ?_
            refine lv_iload_n hx hb dL_law_204 rfl (lv_at hl 3 rfl) ?_
            refine lv_iconst (v := 3) hx hb dL_law_205 (by decide) ?_
            refine lv_iadd hx hb dL_law_206 ?_
            refine va_sld hx hb hX hbl hbA hS v3 dL_law_207 ?_
            refine lv_aload_n hx hb dL_law_208 rfl (lv_at hl 0 rfl) ?_
            refine lv_iload_n hx hb dL_law_209 rfl (lv_at hl 3 rfl) ?_
            refine lv_iconst (v := 4) hx hb dL_law_210 (by decide) ?_
            refine lv_iadd hx hb dL_law_211 ?_
            refine va_sld hx hb hX hbl hbA hS v4 dL_law_212 ?_
            have hF := u_free hDB hS hA
            refine u2_calli (va_runV (As := [.int (xs (x3 + 1).toNatClampNeg), .int (xs (x3 + 2).toNatClampNeg), .int (xs (x3 + 3).toNatClampNeg), .int (xs (x3 + 4).toNatClampNeg)]) (rest := [.int r]) ⟨hx, hb, hml, hown, hts⟩ (ct_X3_write l dC dI g q T τ H.size (xs (x3 + 1).toNatClampNeg) (xs (x3 + 2).toNatClampNeg) (xs (x3 + 3).toNatClampNeg) (xs (x3 + 4).toNatClampNeg) _ e2) (cwV 4 hts (gd_V mg_400 mg_401 mg_402 mg_36 mg_403) rfl rfl rfl (by decide +kernel) ⟨Nat.le_of_ble_eq_true rfl, Nat.le_of_ble_eq_true rfl⟩) (u_preV zB_g hKB hPB hDB hS hF trivial (va_recv hKB hPB (ci := 3) (q0 := 0) rfl rfl)) rfl rfl hl.1 rfl (lv_room (Nat.le_of_ble_eq_true rfl)) dL_law_213 ⟨Nat.le_of_ble_eq_true rfl, Nat.le_of_ble_eq_true rfl⟩) hS hF hPA (u_ap_symm hap) (fun H locs hPB hDB hS hPA hap2 => ?_)
            have hap := u_ap_symm hap2
            refine lv_icmp_eq (tgt := 535) hx hb dL_law_216 (by decide) (fun _ => ?_) (fun hne => absurd rfl hne)
            exact hgo σ1 τ1 _ _ _ hR1 hPA hDA hPB hDB hap hS hl
          · skip
            by_cases hq3 : sel = 3
            · refine lv_tableIn (tgt := 221) hx hb dL_law_42 (by rw [hq3]; decide) (by rw [hq3]; decide) (by rw [hq3]; rfl) (by decide) ?_
              obtain ⟨r, σ1, τ1, e1, e2, hR1⟩ := hs_read σ τ (xs (x3 + 1).toNatClampNeg) (xs (x3 + 2).toNatClampNeg) hR
              refine lv_aload_n hx hb dL_law_221 rfl (lv_at hl 1 rfl) ?_
              refine lv_aload_n hx hb dL_law_222 rfl (lv_at hl 0 rfl) ?_
              refine lv_iload_n hx hb dL_law_223 rfl (lv_at hl 3 rfl) ?_
              refine lv_iconst (v := 1) hx hb dL_law_224 (by decide) ?_
              refine lv_iadd hx hb dL_law_225 ?_
              refine va_sld hx hb hX hbl hbA hS v1 dL_law_226 ?_
              refine lv_aload_n hx hb dL_law_227 rfl (lv_at hl 0 rfl) ?_
              refine lv_iload_n hx hb dL_law_228 rfl (lv_at hl 3 rfl) ?_
              refine lv_iconst (v := 2) hx hb dL_law_229 (by decide) ?_
              refine lv_iadd hx hb dL_law_230 ?_
              refine va_sld hx hb hX hbl hbA hS v2 dL_law_231 ?_
              have hF := u_free hDA hS hA
              refine u2_calll (va_runV (As := [.int (xs (x3 + 1).toNatClampNeg), .int (xs (x3 + 2).toNatClampNeg)]) (rest := []) ⟨hx, hb, hml, hown, hts⟩ (ct_X2_read l dC dI h k T σ H.size (xs (x3 + 1).toNatClampNeg) (xs (x3 + 2).toNatClampNeg) _ e1) (cwV 2 hts (gd_V mg_197 mg_198 mg_199 mg_32 mg_200) rfl rfl rfl (by decide +kernel) ⟨Nat.le_of_ble_eq_true rfl, Nat.le_of_ble_eq_true rfl⟩) (u_preV zA_g hKA hPA hDA hS hF hZ (va_recv hKA hPA (ci := 2) (q0 := 0) rfl rfl)) rfl rfl hl.1 rfl (lv_room (Nat.le_of_ble_eq_true rfl)) dL_law_232 ⟨Nat.le_of_ble_eq_true rfl, Nat.le_of_ble_eq_true rfl⟩) hS hF hPB hap (fun H locs hPA hDA hS hPB hap => ?_)
              refine lv_aload_n hx hb dL_law_235 rfl (lv_at hl 2 rfl) ?_
              refine lv_aload_n hx hb dL_law_236 rfl (lv_at hl 0 rfl) ?_
              refine lv_iload_n hx hb dL_law_237 rfl (lv_at hl 3 rfl) ?_
              refine lv_iconst (v := 1) hx hb dL_law_238 (by decide) ?_
              refine lv_iadd hx hb dL_law_239 ?_
              refine va_sld hx hb hX hbl hbA hS v1 dL_law_240 ?_
              refine lv_aload_n hx hb dL_law_241 rfl (lv_at hl 0 rfl) ?_
              refine lv_iload_n hx hb dL_law_242 rfl (lv_at hl 3 rfl) ?_
              refine lv_iconst (v := 2) hx hb dL_law_243 (by decide) ?_
              refine lv_iadd hx hb dL_law_244 ?_
              refine va_sld hx hb hX hbl hbA hS v2 dL_law_245 ?_
              have hF := u_free hDB hS hA
              refine u2_calll (va_runV (As := [.int (xs (x3 + 1).toNatClampNeg), .int (xs (x3 + 2).toNatClampNeg)]) (rest := [.long r]) ⟨hx, hb, hml, hown, hts⟩ (ct_X3_read l dC dI g q T τ H.size (xs (x3 + 1).toNatClampNeg) (xs (x3 + 2).toNatClampNeg) _ e2) (cwV 2 hts (gd_V mg_419 mg_420 mg_421 mg_36 mg_422) rfl rfl rfl (by decide +kernel) ⟨Nat.le_of_ble_eq_true rfl, Nat.le_of_ble_eq_true rfl⟩) (u_preV zB_g hKB hPB hDB hS hF trivial (va_recv hKB hPB (ci := 3) (q0 := 0) rfl rfl)) rfl rfl hl.1 rfl (lv_room (Nat.le_of_ble_eq_true rfl)) dL_law_246 ⟨Nat.le_of_ble_eq_true rfl, Nat.le_of_ble_eq_true rfl⟩) hS hF hPA (u_ap_symm hap) (fun H locs hPB hDB hS hPA hap2 => ?_)
              have hap := u_ap_symm hap2
              refine W.lcmp hx hb dL_law_249 ?_
              refine lv_if_eq (tgt := 535) hx hb dL_law_250 (by decide) (fun _ => ?_) (fun hne => absurd (lg_same r) hne)
              exact hgo σ1 τ1 _ _ _ hR1 hPA hDA hPB hDB hap hS hl
            · skip
              by_cases hq4 : sel = 4
              · refine lv_tableIn (tgt := 255) hx hb dL_law_42 (by rw [hq4]; decide) (by rw [hq4]; decide) (by rw [hq4]; rfl) (by decide) ?_
                obtain ⟨r, σ1, τ1, e1, e2, hR1⟩ := hs_fail σ τ (xs (x3 + 1).toNatClampNeg) hR
                refine lv_aload_n hx hb dL_law_255 rfl (lv_at hl 1 rfl) ?_
                refine lv_aload_n hx hb dL_law_256 rfl (lv_at hl 0 rfl) ?_
                refine lv_iload_n hx hb dL_law_257 rfl (lv_at hl 3 rfl) ?_
                refine lv_iconst (v := 1) hx hb dL_law_258 (by decide) ?_
                refine lv_iadd hx hb dL_law_259 ?_
                refine va_sld hx hb hX hbl hbA hS v1 dL_law_260 ?_
                have hF := u_free hDA hS hA
                refine u2_calli (va_runV (As := [.int (xs (x3 + 1).toNatClampNeg)]) (rest := []) ⟨hx, hb, hml, hown, hts⟩ (ct_X2_fail l dC dI h k T σ H.size (xs (x3 + 1).toNatClampNeg) _ e1) (cwV 1 hts (gd_V mg_206 mg_207 mg_208 mg_32 mg_209) rfl rfl rfl (by decide +kernel) ⟨Nat.le_of_ble_eq_true rfl, Nat.le_of_ble_eq_true rfl⟩) (u_preV zA_g hKA hPA hDA hS hF hZ (va_recv hKA hPA (ci := 2) (q0 := 0) rfl rfl)) rfl rfl hl.1 rfl (lv_room (Nat.le_of_ble_eq_true rfl)) dL_law_261 ⟨Nat.le_of_ble_eq_true rfl, Nat.le_of_ble_eq_true rfl⟩) hS hF hPB hap (fun H locs hPA hDA hS hPB hap => ?_)
                refine lv_aload_n hx hb dL_law_264 rfl (lv_at hl 2 rfl) ?_
                refine lv_aload_n hx hb dL_law_265 rfl (lv_at hl 0 rfl) ?_
                refine lv_iload_n hx hb dL_law_266 rfl (lv_at hl 3 rfl) ?_
                refine lv_iconst (v := 1) hx hb dL_law_267 (by decide) ?_
                refine lv_iadd hx hb dL_law_268 ?_
                refine va_sld hx hb hX hbl hbA hS v1 dL_law_269 ?_
                have hF := u_free hDB hS hA
                refine u2_calli (va_runV (As := [.int (xs (x3 + 1).toNatClampNeg)]) (rest := [.int r]) ⟨hx, hb, hml, hown, hts⟩ (ct_X3_fail l dC dI g q T τ H.size (xs (x3 + 1).toNatClampNeg) _ e2) (cwV 1 hts (gd_V mg_425 mg_426 mg_427 mg_36 mg_428) rfl rfl rfl (by decide +kernel) ⟨Nat.le_of_ble_eq_true rfl, Nat.le_of_ble_eq_true rfl⟩) (u_preV zB_g hKB hPB hDB hS hF trivial (va_recv hKB hPB (ci := 3) (q0 := 0) rfl rfl)) rfl rfl hl.1 rfl (lv_room (Nat.le_of_ble_eq_true rfl)) dL_law_270 ⟨Nat.le_of_ble_eq_true rfl, Nat.le_of_ble_eq_true rfl⟩) hS hF hPA (u_ap_symm hap) (fun H locs hPB hDB hS hPA hap2 => ?_)
                have hap := u_ap_symm hap2
                refine lv_icmp_eq (tgt := 535) hx hb dL_law_273 (by decide) (fun _ => ?_) (fun hne => absurd rfl hne)
                exact hgo σ1 τ1 _ _ _ hR1 hPA hDA hPB hDB hap hS hl
              · skip
                by_cases hq5 : sel = 5
                · refine lv_tableIn (tgt := 278) hx hb dL_law_42 (by rw [hq5]; decide) (by rw [hq5]; decide) (by rw [hq5]; rfl) (by decide) ?_
                  obtain ⟨r, σ1, τ1, e1, e2, hR1⟩ := hs_replace σ τ (xs (x3 + 1).toNatClampNeg) hR
                  refine lv_aload_n hx hb dL_law_278 rfl (lv_at hl 1 rfl) ?_
                  refine lv_aload_n hx hb dL_law_279 rfl (lv_at hl 0 rfl) ?_
                  refine lv_iload_n hx hb dL_law_280 rfl (lv_at hl 3 rfl) ?_
                  refine lv_iconst (v := 1) hx hb dL_law_281 (by decide) ?_
                  refine lv_iadd hx hb dL_law_282 ?_
                  refine va_sld hx hb hX hbl hbA hS v1 dL_law_283 ?_
                  have hF := u_free hDA hS hA
                  refine u2_calli (va_runV (As := [.int (xs (x3 + 1).toNatClampNeg)]) (rest := []) ⟨hx, hb, hml, hown, hts⟩ (ct_X2_replace l dC dI h k T σ H.size (xs (x3 + 1).toNatClampNeg) _ e1) (cwV 1 hts (gd_V mg_233 mg_234 mg_235 mg_32 mg_236) rfl rfl rfl (by decide +kernel) ⟨Nat.le_of_ble_eq_true rfl, Nat.le_of_ble_eq_true rfl⟩) (u_preV zA_g hKA hPA hDA hS hF hZ (va_recv hKA hPA (ci := 2) (q0 := 0) rfl rfl)) rfl rfl hl.1 rfl (lv_room (Nat.le_of_ble_eq_true rfl)) dL_law_284 ⟨Nat.le_of_ble_eq_true rfl, Nat.le_of_ble_eq_true rfl⟩) hS hF hPB hap (fun H locs hPA hDA hS hPB hap => ?_)
                  refine lv_aload_n hx hb dL_law_287 rfl (lv_at hl 2 rfl) ?_
                  refine lv_aload_n hx hb dL_law_288 rfl (lv_at hl 0 rfl) ?_
                  refine lv_iload_n hx hb dL_law_289 rfl (lv_at hl 3 rfl) ?_
                  refine lv_iconst (v := 1) hx hb dL_law_290 (by decide) ?_
                  refine lv_iadd hx hb dL_law_291 ?_
                  refine va_sld hx hb hX hbl hbA hS v1 dL_law_292 ?_
                  have hF := u_free hDB hS hA
                  refine u2_calli (va_runV (As := [.int (xs (x3 + 1).toNatClampNeg)]) (rest := [.int r]) ⟨hx, hb, hml, hown, hts⟩ (ct_X3_replace l dC dI g q T τ H.size (xs (x3 + 1).toNatClampNeg) _ e2) (cwV 1 hts (gd_V mg_438 mg_439 mg_440 mg_36 mg_441) rfl rfl rfl (by decide +kernel) ⟨Nat.le_of_ble_eq_true rfl, Nat.le_of_ble_eq_true rfl⟩) (u_preV zB_g hKB hPB hDB hS hF trivial (va_recv hKB hPB (ci := 3) (q0 := 0) rfl rfl)) rfl rfl hl.1 rfl (lv_room (Nat.le_of_ble_eq_true rfl)) dL_law_293 ⟨Nat.le_of_ble_eq_true rfl, Nat.le_of_ble_eq_true rfl⟩) hS hF hPA (u_ap_symm hap) (fun H locs hPB hDB hS hPA hap2 => ?_)
                  have hap := u_ap_symm hap2
                  refine lv_icmp_eq (tgt := 535) hx hb dL_law_296 (by decide) (fun _ => ?_) (fun hne => absurd rfl hne)
                  exact hgo σ1 τ1 _ _ _ hR1 hPA hDA hPB hDB hap hS hl
                · skip
                  by_cases hq6 : sel = 6
                  · refine lv_tableIn (tgt := 301) hx hb dL_law_42 (by rw [hq6]; decide) (by rw [hq6]; decide) (by rw [hq6]; rfl) (by decide) ?_
                    obtain ⟨r, σ1, τ1, e1, e2, hR1⟩ := hs_alter σ τ (xs (x3 + 1).toNatClampNeg) (xs (x3 + 2).toNatClampNeg) (xs (x3 + 3).toNatClampNeg) hR
                    refine lv_aload_n hx hb dL_law_301 rfl (lv_at hl 1 rfl) ?_
                    refine lv_aload_n hx hb dL_law_302 rfl (lv_at hl 0 rfl) ?_
                    refine lv_iload_n hx hb dL_law_303 rfl (lv_at hl 3 rfl) ?_
                    refine lv_iconst (v := 1) hx hb dL_law_304 (by decide) ?_
                    refine lv_iadd hx hb dL_law_305 ?_
                    refine va_sld hx hb hX hbl hbA hS v1 dL_law_306 ?_
                    refine lv_aload_n hx hb dL_law_307 rfl (lv_at hl 0 rfl) ?_
                    refine lv_iload_n hx hb dL_law_308 rfl (lv_at hl 3 rfl) ?_
                    refine lv_iconst (v := 2) hx hb dL_law_309 (by decide) ?_
                    refine lv_iadd hx hb dL_law_310 ?_
                    refine va_sld hx hb hX hbl hbA hS v2 dL_law_311 ?_
                    refine lv_aload_n hx hb dL_law_312 rfl (lv_at hl 0 rfl) ?_
                    refine lv_iload_n hx hb dL_law_313 rfl (lv_at hl 3 rfl) ?_
                    refine lv_iconst (v := 3) hx hb dL_law_314 (by decide) ?_
                    refine lv_iadd hx hb dL_law_315 ?_
                    refine va_sld hx hb hX hbl hbA hS v3 dL_law_316 ?_
                    have hF := u_free hDA hS hA
                    refine u2_calli (va_runV (As := [.int (xs (x3 + 1).toNatClampNeg), .int (xs (x3 + 2).toNatClampNeg), .int (xs (x3 + 3).toNatClampNeg)]) (rest := []) ⟨hx, hb, hml, hown, hts⟩ (ct_X2_alter l dC dI h k T σ H.size (xs (x3 + 1).toNatClampNeg) (xs (x3 + 2).toNatClampNeg) (xs (x3 + 3).toNatClampNeg) _ e1) (cwV 3 hts (gd_V mg_241 mg_242 mg_243 mg_32 mg_244) rfl rfl rfl (by decide +kernel) ⟨Nat.le_of_ble_eq_true rfl, Nat.le_of_ble_eq_true rfl⟩) (u_preV zA_g hKA hPA hDA hS hF hZ (va_recv hKA hPA (ci := 2) (q0 := 0) rfl rfl)) rfl rfl hl.1 rfl (lv_room (Nat.le_of_ble_eq_true rfl)) dL_law_317 ⟨Nat.le_of_ble_eq_true rfl, Nat.le_of_ble_eq_true rfl⟩) hS hF hPB hap (fun H locs hPA hDA hS hPB hap => ?_)
                    refine lv_aload_n hx hb dL_law_320 rfl (lv_at hl 2 rfl) ?_
                    refine lv_aload_n hx hb dL_law_321 rfl (lv_at hl 0 rfl) ?_
                    refine lv_iload_n hx hb dL_law_322 rfl (lv_at hl 3 rfl) ?_
                    refine lv_iconst (v := 1) hx hb dL_law_323 (by decide) ?_
                    refine lv_iadd hx hb dL_law_324 ?_
                    refine va_sld hx hb hX hbl hbA hS v1 dL_law_325 ?_
                    refine lv_aload_n hx hb dL_law_326 rfl (lv_at hl 0 rfl) ?_
                    refine lv_iload_n hx hb dL_law_327 rfl (lv_at hl 3 rfl) ?_
                    refine lv_iconst (v := 2) hx hb dL_law_328 (by decide) ?_
                    refine lv_iadd hx hb dL_law_329 ?_
                    refine va_sld hx hb hX hbl hbA hS v2 dL_law_330 ?_
                    refine lv_aload_n hx hb dL_law_331 rfl (lv_at hl 0 rfl) ?_
                    refine lv_iload_n hx hb dL_law_332 rfl (lv_at hl 3 rfl) ?_
                    refine lv_iconst (v := 3) hx hb dL_law_333 (by decide) ?_
                    refine lv_iadd hx hb dL_law_334 ?_
                    refine va_sld hx hb hX hbl hbA hS v3 dL_law_335 ?_
                    have hF := u_free hDB hS hA
                    refine u2_calli (va_runV (As := [.int (xs (x3 + 1).toNatClampNeg), .int (xs (x3 + 2).toNatClampNeg), .int (xs (x3 + 3).toNatClampNeg)]) (rest := [.int r]) ⟨hx, hb, hml, hown, hts⟩ (ct_X3_alter l dC dI g q T τ H.size (xs (x3 + 1).toNatClampNeg) (xs (x3 + 2).toNatClampNeg) (xs (x3 + 3).toNatClampNeg) _ e2) (cwV 3 hts (gd_V mg_442 mg_443 mg_444 mg_36 mg_445) rfl rfl rfl (by decide +kernel) ⟨Nat.le_of_ble_eq_true rfl, Nat.le_of_ble_eq_true rfl⟩) (u_preV zB_g hKB hPB hDB hS hF trivial (va_recv hKB hPB (ci := 3) (q0 := 0) rfl rfl)) rfl rfl hl.1 rfl (lv_room (Nat.le_of_ble_eq_true rfl)) dL_law_336 ⟨Nat.le_of_ble_eq_true rfl, Nat.le_of_ble_eq_true rfl⟩) hS hF hPA (u_ap_symm hap) (fun H locs hPB hDB hS hPA hap2 => ?_)
                    have hap := u_ap_symm hap2
                    refine lv_icmp_eq (tgt := 535) hx hb dL_law_339 (by decide) (fun _ => ?_) (fun hne => absurd rfl hne)
                    exact hgo σ1 τ1 _ _ _ hR1 hPA hDA hPB hDB hap hS hl
                  · skip
                    by_cases hq7 : sel = 7
                    · refine lv_tableIn (tgt := 344) hx hb dL_law_42 (by rw [hq7]; decide) (by rw [hq7]; decide) (by rw [hq7]; rfl) (by decide) ?_
                      obtain ⟨r, σ1, τ1, e1, e2, hR1⟩ := hs_rebuild σ τ (xs (x3 + 1).toNatClampNeg) hR
                      refine lv_aload_n hx hb dL_law_344 rfl (lv_at hl 1 rfl) ?_
                      refine lv_aload_n hx hb dL_law_345 rfl (lv_at hl 0 rfl) ?_
                      refine lv_iload_n hx hb dL_law_346 rfl (lv_at hl 3 rfl) ?_
                      refine lv_iconst (v := 1) hx hb dL_law_347 (by decide) ?_
                      refine lv_iadd hx hb dL_law_348 ?_
                      refine va_sld hx hb hX hbl hbA hS v1 dL_law_349 ?_
                      have hF := u_free hDA hS hA
                      refine u2_calli (va_runV (As := [.int (xs (x3 + 1).toNatClampNeg)]) (rest := []) ⟨hx, hb, hml, hown, hts⟩ (ct_X2_rebuild l dC dI h k T σ H.size (xs (x3 + 1).toNatClampNeg) _ e1) (cwV 1 hts (gd_V mg_256 mg_257 mg_258 mg_32 mg_259) rfl rfl rfl (by decide +kernel) ⟨Nat.le_of_ble_eq_true rfl, Nat.le_of_ble_eq_true rfl⟩) (u_preV zA_g hKA hPA hDA hS hF hZ (va_recv hKA hPA (ci := 2) (q0 := 0) rfl rfl)) rfl rfl hl.1 rfl (lv_room (Nat.le_of_ble_eq_true rfl)) dL_law_350 ⟨Nat.le_of_ble_eq_true rfl, Nat.le_of_ble_eq_true rfl⟩) hS hF hPB hap (fun H locs hPA hDA hS hPB hap => ?_)
                      refine lv_aload_n hx hb dL_law_353 rfl (lv_at hl 2 rfl) ?_
                      refine lv_aload_n hx hb dL_law_354 rfl (lv_at hl 0 rfl) ?_
                      refine lv_iload_n hx hb dL_law_355 rfl (lv_at hl 3 rfl) ?_
                      refine lv_iconst (v := 1) hx hb dL_law_356 (by decide) ?_
                      refine lv_iadd hx hb dL_law_357 ?_
                      refine va_sld hx hb hX hbl hbA hS v1 dL_law_358 ?_
                      have hF := u_free hDB hS hA
                      refine u2_calli (va_runV (As := [.int (xs (x3 + 1).toNatClampNeg)]) (rest := [.int r]) ⟨hx, hb, hml, hown, hts⟩ (ct_X3_rebuild l dC dI g q T τ H.size (xs (x3 + 1).toNatClampNeg) _ e2) (cwV 1 hts (gd_V mg_446 mg_447 mg_448 mg_36 mg_449) rfl rfl rfl (by decide +kernel) ⟨Nat.le_of_ble_eq_true rfl, Nat.le_of_ble_eq_true rfl⟩) (u_preV zB_g hKB hPB hDB hS hF trivial (va_recv hKB hPB (ci := 3) (q0 := 0) rfl rfl)) rfl rfl hl.1 rfl (lv_room (Nat.le_of_ble_eq_true rfl)) dL_law_359 ⟨Nat.le_of_ble_eq_true rfl, Nat.le_of_ble_eq_true rfl⟩) hS hF hPA (u_ap_symm hap) (fun H locs hPB hDB hS hPA hap2 => ?_)
                      have hap := u_ap_symm hap2
                      refine lv_icmp_eq (tgt := 535) hx hb dL_law_362 (by decide) (fun _ => ?_) (fun hne => absurd rfl hne)
                      exact hgo σ1 τ1 _ _ _ hR1 hPA hDA hPB hDB hap hS hl
                    · skip
                      by_cases hq8 : sel = 8
                      · refine lv_tableIn (tgt := 367) hx hb dL_law_42 (by rw [hq8]; decide) (by rw [hq8]; decide) (by rw [hq8]; rfl) (by decide) ?_
                        obtain ⟨r, σ1, τ1, e1, e2, hR1⟩ := hs_moveBack σ τ (xs (x3 + 1).toNatClampNeg) hR
                        refine lv_aload_n hx hb dL_law_367 rfl (lv_at hl 1 rfl) ?_
                        refine lv_aload_n hx hb dL_law_368 rfl (lv_at hl 0 rfl) ?_
                        refine lv_iload_n hx hb dL_law_369 rfl (lv_at hl 3 rfl) ?_
                        refine lv_iconst (v := 1) hx hb dL_law_370 (by decide) ?_
                        refine lv_iadd hx hb dL_law_371 ?_
                        refine va_sld hx hb hX hbl hbA hS v1 dL_law_372 ?_
                        have hF := u_free hDA hS hA
                        refine u2_calli (va_runV (As := [.int (xs (x3 + 1).toNatClampNeg)]) (rest := []) ⟨hx, hb, hml, hown, hts⟩ (ct_X2_moveBack l dC dI h k T σ H.size (xs (x3 + 1).toNatClampNeg) _ e1) (cwV 1 hts (gd_V mg_277 mg_278 mg_279 mg_32 mg_280) rfl rfl rfl (by decide +kernel) ⟨Nat.le_of_ble_eq_true rfl, Nat.le_of_ble_eq_true rfl⟩) (u_preV zA_g hKA hPA hDA hS hF hZ (va_recv hKA hPA (ci := 2) (q0 := 0) rfl rfl)) rfl rfl hl.1 rfl (lv_room (Nat.le_of_ble_eq_true rfl)) dL_law_373 ⟨Nat.le_of_ble_eq_true rfl, Nat.le_of_ble_eq_true rfl⟩) hS hF hPB hap (fun H locs hPA hDA hS hPB hap => ?_)
                        refine lv_aload_n hx hb dL_law_376 rfl (lv_at hl 2 rfl) ?_
                        refine lv_aload_n hx hb dL_law_377 rfl (lv_at hl 0 rfl) ?_
                        refine lv_iload_n hx hb dL_law_378 rfl (lv_at hl 3 rfl) ?_
                        refine lv_iconst (v := 1) hx hb dL_law_379 (by decide) ?_
                        refine lv_iadd hx hb dL_law_380 ?_
                        refine va_sld hx hb hX hbl hbA hS v1 dL_law_381 ?_
                        have hF := u_free hDB hS hA
                        refine u2_calli (va_runV (As := [.int (xs (x3 + 1).toNatClampNeg)]) (rest := [.int r]) ⟨hx, hb, hml, hown, hts⟩ (ct_X3_moveBack l dC dI g q T τ H.size (xs (x3 + 1).toNatClampNeg) _ e2) (cwV 1 hts (gd_V mg_456 mg_457 mg_458 mg_36 mg_459) rfl rfl rfl (by decide +kernel) ⟨Nat.le_of_ble_eq_true rfl, Nat.le_of_ble_eq_true rfl⟩) (u_preV zB_g hKB hPB hDB hS hF trivial (va_recv hKB hPB (ci := 3) (q0 := 0) rfl rfl)) rfl rfl hl.1 rfl (lv_room (Nat.le_of_ble_eq_true rfl)) dL_law_382 ⟨Nat.le_of_ble_eq_true rfl, Nat.le_of_ble_eq_true rfl⟩) hS hF hPA (u_ap_symm hap) (fun H locs hPB hDB hS hPA hap2 => ?_)
                        have hap := u_ap_symm hap2
                        refine lv_icmp_eq (tgt := 535) hx hb dL_law_385 (by decide) (fun _ => ?_) (fun hne => absurd rfl hne)
                        exact hgo σ1 τ1 _ _ _ hR1 hPA hDA hPB hDB hap hS hl
                      · skip
                        by_cases hq9 : sel = 9
                        · refine lv_tableIn (tgt := 390) hx hb dL_law_42 (by rw [hq9]; decide) (by rw [hq9]; decide) (by rw [hq9]; rfl) (by decide) ?_
                          obtain ⟨r, σ1, τ1, e1, e2, hR1⟩ := hs_scrub σ τ (xs (x3 + 1).toNatClampNeg) hR
                          refine lv_aload_n hx hb dL_law_390 rfl (lv_at hl 1 rfl) ?_
                          refine lv_aload_n hx hb dL_law_391 rfl (lv_at hl 0 rfl) ?_
                          refine lv_iload_n hx hb dL_law_392 rfl (lv_at hl 3 rfl) ?_
                          refine lv_iconst (v := 1) hx hb dL_law_393 (by decide) ?_
                          refine lv_iadd hx hb dL_law_394 ?_
                          refine va_sld hx hb hX hbl hbA hS v1 dL_law_395 ?_
                          have hF := u_free hDA hS hA
                          refine u2_calli (va_runV (As := [.int (xs (x3 + 1).toNatClampNeg)]) (rest := []) ⟨hx, hb, hml, hown, hts⟩ (ct_X2_scrub l dC dI h k T σ H.size (xs (x3 + 1).toNatClampNeg) _ e1) (cwV 1 hts (gd_V mg_285 mg_286 mg_287 mg_32 mg_288) rfl rfl rfl (by decide +kernel) ⟨Nat.le_of_ble_eq_true rfl, Nat.le_of_ble_eq_true rfl⟩) (u_preV zA_g hKA hPA hDA hS hF hZ (va_recv hKA hPA (ci := 2) (q0 := 0) rfl rfl)) rfl rfl hl.1 rfl (lv_room (Nat.le_of_ble_eq_true rfl)) dL_law_396 ⟨Nat.le_of_ble_eq_true rfl, Nat.le_of_ble_eq_true rfl⟩) hS hF hPB hap (fun H locs hPA hDA hS hPB hap => ?_)
                          refine lv_aload_n hx hb dL_law_399 rfl (lv_at hl 2 rfl) ?_
                          refine lv_aload_n hx hb dL_law_400 rfl (lv_at hl 0 rfl) ?_
                          refine lv_iload_n hx hb dL_law_401 rfl (lv_at hl 3 rfl) ?_
                          refine lv_iconst (v := 1) hx hb dL_law_402 (by decide) ?_
                          refine lv_iadd hx hb dL_law_403 ?_
                          refine va_sld hx hb hX hbl hbA hS v1 dL_law_404 ?_
                          have hF := u_free hDB hS hA
                          refine u2_calli (va_runV (As := [.int (xs (x3 + 1).toNatClampNeg)]) (rest := [.int r]) ⟨hx, hb, hml, hown, hts⟩ (ct_X3_scrub l dC dI g q T τ H.size (xs (x3 + 1).toNatClampNeg) _ e2) (cwV 1 hts (gd_V mg_460 mg_461 mg_462 mg_36 mg_463) rfl rfl rfl (by decide +kernel) ⟨Nat.le_of_ble_eq_true rfl, Nat.le_of_ble_eq_true rfl⟩) (u_preV zB_g hKB hPB hDB hS hF trivial (va_recv hKB hPB (ci := 3) (q0 := 0) rfl rfl)) rfl rfl hl.1 rfl (lv_room (Nat.le_of_ble_eq_true rfl)) dL_law_405 ⟨Nat.le_of_ble_eq_true rfl, Nat.le_of_ble_eq_true rfl⟩) hS hF hPA (u_ap_symm hap) (fun H locs hPB hDB hS hPA hap2 => ?_)
                          have hap := u_ap_symm hap2
                          refine lv_icmp_eq (tgt := 535) hx hb dL_law_408 (by decide) (fun _ => ?_) (fun hne => absurd rfl hne)
                          exact hgo σ1 τ1 _ _ _ hR1 hPA hDA hPB hDB hap hS hl
                        · skip
                          by_cases hq10 : sel = 10
                          · refine lv_tableIn (tgt := 413) hx hb dL_law_42 (by rw [hq10]; decide) (by rw [hq10]; decide) (by rw [hq10]; rfl) (by decide) ?_
                            obtain ⟨r, σ1, τ1, e1, e2, hR1⟩ := hs_file σ τ (xs (x3 + 1).toNatClampNeg) (xs (x3 + 2).toNatClampNeg) hR
                            refine lv_aload_n hx hb dL_law_413 rfl (lv_at hl 1 rfl) ?_
                            refine lv_aload_n hx hb dL_law_414 rfl (lv_at hl 0 rfl) ?_
                            refine lv_iload_n hx hb dL_law_415 rfl (lv_at hl 3 rfl) ?_
                            refine lv_iconst (v := 1) hx hb dL_law_416 (by decide) ?_
                            refine lv_iadd hx hb dL_law_417 ?_
                            refine va_sld hx hb hX hbl hbA hS v1 dL_law_418 ?_
                            refine lv_aload_n hx hb dL_law_419 rfl (lv_at hl 0 rfl) ?_
                            refine lv_iload_n hx hb dL_law_420 rfl (lv_at hl 3 rfl) ?_
                            refine lv_iconst (v := 2) hx hb dL_law_421 (by decide) ?_
                            refine lv_iadd hx hb dL_law_422 ?_
                            refine va_sld hx hb hX hbl hbA hS v2 dL_law_423 ?_
                            have hF := u_free hDA hS hA
                            refine u2_calli (va_runV (As := [.int (xs (x3 + 1).toNatClampNeg), .int (xs (x3 + 2).toNatClampNeg)]) (rest := []) ⟨hx, hb, hml, hown, hts⟩ (ct_X2_file l dC dI h k T σ H.size (xs (x3 + 1).toNatClampNeg) (xs (x3 + 2).toNatClampNeg) _ e1) (cwV 2 hts (gd_V mg_294 mg_295 mg_296 mg_32 mg_297) rfl rfl rfl (by decide +kernel) ⟨Nat.le_of_ble_eq_true rfl, Nat.le_of_ble_eq_true rfl⟩) (u_preV zA_g hKA hPA hDA hS hF hZ (va_recv hKA hPA (ci := 2) (q0 := 0) rfl rfl)) rfl rfl hl.1 rfl (lv_room (Nat.le_of_ble_eq_true rfl)) dL_law_424 ⟨Nat.le_of_ble_eq_true rfl, Nat.le_of_ble_eq_true rfl⟩) hS hF hPB hap (fun H locs hPA hDA hS hPB hap => ?_)
                            refine lv_aload_n hx hb dL_law_427 rfl (lv_at hl 2 rfl) ?_
                            refine lv_aload_n hx hb dL_law_428 rfl (lv_at hl 0 rfl) ?_
                            refine lv_iload_n hx hb dL_law_429 rfl (lv_at hl 3 rfl) ?_
                            refine lv_iconst (v := 1) hx hb dL_law_430 (by decide) ?_
                            refine lv_iadd hx hb dL_law_431 ?_
                            refine va_sld hx hb hX hbl hbA hS v1 dL_law_432 ?_
                            refine lv_aload_n hx hb dL_law_433 rfl (lv_at hl 0 rfl) ?_
                            refine lv_iload_n hx hb dL_law_434 rfl (lv_at hl 3 rfl) ?_
                            refine lv_iconst (v := 2) hx hb dL_law_435 (by decide) ?_
                            refine lv_iadd hx hb dL_law_436 ?_
                            refine va_sld hx hb hX hbl hbA hS v2 dL_law_437 ?_
                            have hF := u_free hDB hS hA
                            refine u2_calli (va_runV (As := [.int (xs (x3 + 1).toNatClampNeg), .int (xs (x3 + 2).toNatClampNeg)]) (rest := [.int r]) ⟨hx, hb, hml, hown, hts⟩ (ct_X3_file l dC dI g q T τ H.size (xs (x3 + 1).toNatClampNeg) (xs (x3 + 2).toNatClampNeg) _ e2) (cwV 2 hts (gd_V mg_464 mg_465 mg_466 mg_36 mg_467) rfl rfl rfl (by decide +kernel) ⟨Nat.le_of_ble_eq_true rfl, Nat.le_of_ble_eq_true rfl⟩) (u_preV zB_g hKB hPB hDB hS hF trivial (va_recv hKB hPB (ci := 3) (q0 := 0) rfl rfl)) rfl rfl hl.1 rfl (lv_room (Nat.le_of_ble_eq_true rfl)) dL_law_438 ⟨Nat.le_of_ble_eq_true rfl, Nat.le_of_ble_eq_true rfl⟩) hS hF hPA (u_ap_symm hap) (fun H locs hPB hDB hS hPA hap2 => ?_)
                            have hap := u_ap_symm hap2
                            refine lv_icmp_eq (tgt := 535) hx hb dL_law_441 (by decide) (fun _ => ?_) (fun hne => absurd rfl hne)
                            exact hgo σ1 τ1 _ _ _ hR1 hPA hDA hPB hDB hap hS hl
                          · skip
                            by_cases hq11 : sel = 11
                            · refine lv_tableIn (tgt := 446) hx hb dL_law_42 (by rw [hq11]; decide) (by rw [hq11]; decide) (by rw [hq11]; rfl) (by decide) ?_
                              obtain ⟨r, σ1, τ1, e1, e2, hR1⟩ := hs_stripe σ τ (xs (x3 + 1).toNatClampNeg) (xs (x3 + 2).toNatClampNeg) hR
                              refine lv_aload_n hx hb dL_law_446 rfl (lv_at hl 1 rfl) ?_
                              refine lv_aload_n hx hb dL_law_447 rfl (lv_at hl 0 rfl) ?_
                              refine lv_iload_n hx hb dL_law_448 rfl (lv_at hl 3 rfl) ?_
                              refine lv_iconst (v := 1) hx hb dL_law_449 (by decide) ?_
                              refine lv_iadd hx hb dL_law_450 ?_
                              refine va_sld hx hb hX hbl hbA hS v1 dL_law_451 ?_
                              refine lv_aload_n hx hb dL_law_452 rfl (lv_at hl 0 rfl) ?_
                              refine lv_iload_n hx hb dL_law_453 rfl (lv_at hl 3 rfl) ?_
                              refine lv_iconst (v := 2) hx hb dL_law_454 (by decide) ?_
                              refine lv_iadd hx hb dL_law_455 ?_
                              refine va_sld hx hb hX hbl hbA hS v2 dL_law_456 ?_
                              have hF := u_free hDA hS hA
                              refine u2_calli (va_runV (As := [.int (xs (x3 + 1).toNatClampNeg), .int (xs (x3 + 2).toNatClampNeg)]) (rest := []) ⟨hx, hb, hml, hown, hts⟩ (ct_X2_stripe l dC dI h k T σ H.size (xs (x3 + 1).toNatClampNeg) (xs (x3 + 2).toNatClampNeg) _ e1) (cwV 2 hts (gd_V mg_300 mg_301 mg_302 mg_32 mg_303) rfl rfl rfl (by decide +kernel) ⟨Nat.le_of_ble_eq_true rfl, Nat.le_of_ble_eq_true rfl⟩) (u_preV zA_g hKA hPA hDA hS hF hZ (va_recv hKA hPA (ci := 2) (q0 := 0) rfl rfl)) rfl rfl hl.1 rfl (lv_room (Nat.le_of_ble_eq_true rfl)) dL_law_457 ⟨Nat.le_of_ble_eq_true rfl, Nat.le_of_ble_eq_true rfl⟩) hS hF hPB hap (fun H locs hPA hDA hS hPB hap => ?_)
                              refine lv_aload_n hx hb dL_law_460 rfl (lv_at hl 2 rfl) ?_
                              refine lv_aload_n hx hb dL_law_461 rfl (lv_at hl 0 rfl) ?_
                              refine lv_iload_n hx hb dL_law_462 rfl (lv_at hl 3 rfl) ?_
                              refine lv_iconst (v := 1) hx hb dL_law_463 (by decide) ?_
                              refine lv_iadd hx hb dL_law_464 ?_
                              refine va_sld hx hb hX hbl hbA hS v1 dL_law_465 ?_
                              refine lv_aload_n hx hb dL_law_466 rfl (lv_at hl 0 rfl) ?_
                              refine lv_iload_n hx hb dL_law_467 rfl (lv_at hl 3 rfl) ?_
                              refine lv_iconst (v := 2) hx hb dL_law_468 (by decide) ?_
                              refine lv_iadd hx hb dL_law_469 ?_
                              refine va_sld hx hb hX hbl hbA hS v2 dL_law_470 ?_
                              have hF := u_free hDB hS hA
                              refine u2_calli (va_runV (As := [.int (xs (x3 + 1).toNatClampNeg), .int (xs (x3 + 2).toNatClampNeg)]) (rest := [.int r]) ⟨hx, hb, hml, hown, hts⟩ (ct_X3_stripe l dC dI g q T τ H.size (xs (x3 + 1).toNatClampNeg) (xs (x3 + 2).toNatClampNeg) _ e2) (cwV 2 hts (gd_V mg_471 mg_472 mg_473 mg_36 mg_474) rfl rfl rfl (by decide +kernel) ⟨Nat.le_of_ble_eq_true rfl, Nat.le_of_ble_eq_true rfl⟩) (u_preV zB_g hKB hPB hDB hS hF trivial (va_recv hKB hPB (ci := 3) (q0 := 0) rfl rfl)) rfl rfl hl.1 rfl (lv_room (Nat.le_of_ble_eq_true rfl)) dL_law_471 ⟨Nat.le_of_ble_eq_true rfl, Nat.le_of_ble_eq_true rfl⟩) hS hF hPA (u_ap_symm hap) (fun H locs hPB hDB hS hPA hap2 => ?_)
                              have hap := u_ap_symm hap2
                              refine lv_icmp_eq (tgt := 535) hx hb dL_law_474 (by decide) (fun _ => ?_) (fun hne => absurd rfl hne)
                              exact hgo σ1 τ1 _ _ _ hR1 hPA hDA hPB hDB hap hS hl
                            · skip
                              by_cases hq12 : sel = 12
                              · refine lv_tableIn (tgt := 479) hx hb dL_law_42 (by rw [hq12]; decide) (by rw [hq12]; decide) (by rw [hq12]; rfl) (by decide) ?_
                                obtain ⟨r, σ1, τ1, e1, e2, hR1⟩ := hs_disk σ τ (xs (x3 + 1).toNatClampNeg) (xs (x3 + 2).toNatClampNeg) hR
                                refine lv_aload_n hx hb dL_law_479 rfl (lv_at hl 1 rfl) ?_
                                refine lv_aload_n hx hb dL_law_480 rfl (lv_at hl 0 rfl) ?_
                                refine lv_iload_n hx hb dL_law_481 rfl (lv_at hl 3 rfl) ?_
                                refine lv_iconst (v := 1) hx hb dL_law_482 (by decide) ?_
                                refine lv_iadd hx hb dL_law_483 ?_
                                refine va_sld hx hb hX hbl hbA hS v1 dL_law_484 ?_
                                refine lv_aload_n hx hb dL_law_485 rfl (lv_at hl 0 rfl) ?_
                                refine lv_iload_n hx hb dL_law_486 rfl (lv_at hl 3 rfl) ?_
                                refine lv_iconst (v := 2) hx hb dL_law_487 (by decide) ?_
                                refine lv_iadd hx hb dL_law_488 ?_
                                refine va_sld hx hb hX hbl hbA hS v2 dL_law_489 ?_
                                have hF := u_free hDA hS hA
                                refine u2_calli (va_runV (As := [.int (xs (x3 + 1).toNatClampNeg), .int (xs (x3 + 2).toNatClampNeg)]) (rest := []) ⟨hx, hb, hml, hown, hts⟩ (ct_X2_disk l dC dI h k T σ H.size (xs (x3 + 1).toNatClampNeg) (xs (x3 + 2).toNatClampNeg) _ e1) (cwV 2 hts (gd_V mg_312 mg_313 mg_314 mg_32 mg_315) rfl rfl rfl (by decide +kernel) ⟨Nat.le_of_ble_eq_true rfl, Nat.le_of_ble_eq_true rfl⟩) (u_preV zA_g hKA hPA hDA hS hF hZ (va_recv hKA hPA (ci := 2) (q0 := 0) rfl rfl)) rfl rfl hl.1 rfl (lv_room (Nat.le_of_ble_eq_true rfl)) dL_law_490 ⟨Nat.le_of_ble_eq_true rfl, Nat.le_of_ble_eq_true rfl⟩) hS hF hPB hap (fun H locs hPA hDA hS hPB hap => ?_)
                                refine lv_aload_n hx hb dL_law_493 rfl (lv_at hl 2 rfl) ?_
                                refine lv_aload_n hx hb dL_law_494 rfl (lv_at hl 0 rfl) ?_
                                refine lv_iload_n hx hb dL_law_495 rfl (lv_at hl 3 rfl) ?_
                                refine lv_iconst (v := 1) hx hb dL_law_496 (by decide) ?_
                                refine lv_iadd hx hb dL_law_497 ?_
                                refine va_sld hx hb hX hbl hbA hS v1 dL_law_498 ?_
                                refine lv_aload_n hx hb dL_law_499 rfl (lv_at hl 0 rfl) ?_
                                refine lv_iload_n hx hb dL_law_500 rfl (lv_at hl 3 rfl) ?_
                                refine lv_iconst (v := 2) hx hb dL_law_501 (by decide) ?_
                                refine lv_iadd hx hb dL_law_502 ?_
                                refine va_sld hx hb hX hbl hbA hS v2 dL_law_503 ?_
                                have hF := u_free hDB hS hA
                                refine u2_calli (va_runV (As := [.int (xs (x3 + 1).toNatClampNeg), .int (xs (x3 + 2).toNatClampNeg)]) (rest := [.int r]) ⟨hx, hb, hml, hown, hts⟩ (ct_X3_disk l dC dI g q T τ H.size (xs (x3 + 1).toNatClampNeg) (xs (x3 + 2).toNatClampNeg) _ e2) (cwV 2 hts (gd_V mg_475 mg_476 mg_477 mg_36 mg_478) rfl rfl rfl (by decide +kernel) ⟨Nat.le_of_ble_eq_true rfl, Nat.le_of_ble_eq_true rfl⟩) (u_preV zB_g hKB hPB hDB hS hF trivial (va_recv hKB hPB (ci := 3) (q0 := 0) rfl rfl)) rfl rfl hl.1 rfl (lv_room (Nat.le_of_ble_eq_true rfl)) dL_law_504 ⟨Nat.le_of_ble_eq_true rfl, Nat.le_of_ble_eq_true rfl⟩) hS hF hPA (u_ap_symm hap) (fun H locs hPB hDB hS hPA hap2 => ?_)
                                have hap := u_ap_symm hap2
                                refine lv_icmp_eq (tgt := 535) hx hb dL_law_507 (by decide) (fun _ => ?_) (fun hne => absurd rfl hne)
                                exact hgo σ1 τ1 _ _ _ hR1 hPA hDA hPB hDB hap hS hl
                              · skip
                                by_cases hq13 : sel = 13
                                · refine lv_tableIn (tgt := 512) hx hb dL_law_42 (by rw [hq13]; decide) (by rw [hq13]; decide) (by rw [hq13]; rfl) (by decide) ?_
                                  obtain ⟨r, σ1, τ1, e1, e2, hR1⟩ := hs_count σ τ (xs (x3 + 1).toNatClampNeg) hR
                                  refine lv_aload_n hx hb dL_law_512 rfl (lv_at hl 1 rfl) ?_
                                  refine lv_aload_n hx hb dL_law_513 rfl (lv_at hl 0 rfl) ?_
                                  refine lv_iload_n hx hb dL_law_514 rfl (lv_at hl 3 rfl) ?_
                                  refine lv_iconst (v := 1) hx hb dL_law_515 (by decide) ?_
                                  refine lv_iadd hx hb dL_law_516 ?_
                                  refine va_sld hx hb hX hbl hbA hS v1 dL_law_517 ?_
                                  have hF := u_free hDA hS hA
                                  refine u2_calli (va_runV (As := [.int (xs (x3 + 1).toNatClampNeg)]) (rest := []) ⟨hx, hb, hml, hown, hts⟩ (ct_X2_count l dC dI h k T σ H.size (xs (x3 + 1).toNatClampNeg) _ e1) (cwV 1 hts (gd_V mg_324 mg_325 mg_326 mg_32 mg_327) rfl rfl rfl (by decide +kernel) ⟨Nat.le_of_ble_eq_true rfl, Nat.le_of_ble_eq_true rfl⟩) (u_preV zA_g hKA hPA hDA hS hF hZ (va_recv hKA hPA (ci := 2) (q0 := 0) rfl rfl)) rfl rfl hl.1 rfl (lv_room (Nat.le_of_ble_eq_true rfl)) dL_law_518 ⟨Nat.le_of_ble_eq_true rfl, Nat.le_of_ble_eq_true rfl⟩) hS hF hPB hap (fun H locs hPA hDA hS hPB hap => ?_)
                                  refine lv_aload_n hx hb dL_law_521 rfl (lv_at hl 2 rfl) ?_
                                  refine lv_aload_n hx hb dL_law_522 rfl (lv_at hl 0 rfl) ?_
                                  refine lv_iload_n hx hb dL_law_523 rfl (lv_at hl 3 rfl) ?_
                                  refine lv_iconst (v := 1) hx hb dL_law_524 (by decide) ?_
                                  refine lv_iadd hx hb dL_law_525 ?_
                                  refine va_sld hx hb hX hbl hbA hS v1 dL_law_526 ?_
                                  have hF := u_free hDB hS hA
                                  refine u2_calli (va_runV (As := [.int (xs (x3 + 1).toNatClampNeg)]) (rest := [.int r]) ⟨hx, hb, hml, hown, hts⟩ (ct_X3_count l dC dI g q T τ H.size (xs (x3 + 1).toNatClampNeg) _ e2) (cwV 1 hts (gd_V mg_479 mg_480 mg_481 mg_36 mg_482) rfl rfl rfl (by decide +kernel) ⟨Nat.le_of_ble_eq_true rfl, Nat.le_of_ble_eq_true rfl⟩) (u_preV zB_g hKB hPB hDB hS hF trivial (va_recv hKB hPB (ci := 3) (q0 := 0) rfl rfl)) rfl rfl hl.1 rfl (lv_room (Nat.le_of_ble_eq_true rfl)) dL_law_527 ⟨Nat.le_of_ble_eq_true rfl, Nat.le_of_ble_eq_true rfl⟩) hS hF hPA (u_ap_symm hap) (fun H locs hPB hDB hS hPA hap2 => ?_)
                                  have hap := u_ap_symm hap2
                                  refine lv_icmp_eq (tgt := 535) hx hb dL_law_530 (by decide) (fun _ => ?_) (fun hne => absurd rfl hne)
                                  exact hgo σ1 τ1 _ _ _ hR1 hPA hDA hPB hDB hap hS hl
                                · skip
                                  have hn0 := lv_neT hq0 (a := 0) (by decide)
                                  have hn1 := lv_neT hq1 (a := 1) (by decide)
                                  have hn2 := lv_neT hq2 (a := 2) (by decide)
                                  have hn3 := lv_neT hq3 (a := 3) (by decide)
                                  have hn4 := lv_neT hq4 (a := 4) (by decide)
                                  have hn5 := lv_neT hq5 (a := 5) (by decide)
                                  have hn6 := lv_neT hq6 (a := 6) (by decide)
                                  have hn7 := lv_neT hq7 (a := 7) (by decide)
                                  have hn8 := lv_neT hq8 (a := 8) (by decide)
                                  have hn9 := lv_neT hq9 (a := 9) (by decide)
                                  have hn10 := lv_neT hq10 (a := 10) (by decide)
                                  have hn11 := lv_neT hq11 (a := 11) (by decide)
                                  have hn12 := lv_neT hq12 (a := 12) (by decide)
                                  have hn13 := lv_neT hq13 (a := 13) (by decide)
                                  refine lv_tableOut (tgt := 535) hx hb dL_law_42 (by omega) (by decide) ?_
                                  exact hgo σ τ _ _ _ hR hPA hDA hPB hDB hap hS hl
