/-! PURE ROWS: moveBack, rebuild (own work) -/
theorem rr_hom {T s m : Nat} {σ τ : gS} (h : RR T σ τ) (hs : s < T) (hm : m < 4) (h4 : σ 4 s = nI m) : RR T (gs_st σ 4 (upd (σ 4) s 4)) (gs_st τ 4 (upd (τ 4) (4 * s + m) 0)) := by
  obtain ⟨hN, hW, hX, hM, hP, hF⟩ := h
  refine ⟨hN, hW, hX, fun j hj => ?_, hP, hF⟩
  obtain ⟨n, n1, n2, n3, n4⟩ := hM j hj
  by_cases hjs : j = s
  · subst hjs
    have hnm : n = m := by
      rw [h4] at n2
      exact ((nI_eq (by omega) (by omega)).mp n2).symm
    subst hnm
    refine ⟨4, by omega, pk_us, fun c hc => ?_, fun q => by omega⟩
    show upd (τ 4) (4 * j + n) 0 (4 * j + c) = if 4 = c then 1 else 0
    rw [if_neg (by omega)]
    by_cases hcn : c = n
    · rw [hcn, pk_us]
    · rw [pk_un (by omega), n3 c hc, if_neg (fun q => hcn q.symm)]
  · refine ⟨n, n1, (pk_un hjs).trans n2, fun c hc => ?_, n4⟩
    show upd (τ 4) (4 * s + m) 0 (4 * j + c) = if n = c then 1 else 0
    rw [pk_un (by omega)]; exact n3 c hc
theorem mb_skip {T lim : Nat} {τ : gS} (hT : T ≤ 21) (h0 : τ 0 0 = nI T) (hl : lim ≤ 21) : ∀ (k n i a : Nat), (∀ j, i ≤ j → j < i + k → τ 4 j = nI 0) → i + k ≤ 4 * T → a < lim → fn_X3_moveBack_L17 T (n + k) (nI lim) (nI a) (nI i) τ = fn_X3_moveBack_L17 T n (nI lim) (nI a) (nI (i + k)) τ := by
  intro k
  induction k with
  | zero => intro n i a _ _ _; rfl
  | succ k ih =>
    intro n i a h1 h2 h3
    rw [show n + (k + 1) = (n + k) + 1 by omega, fn_X3_moveBack_L17, h0, li4, pk_mul, if_neg (nI_ge (by omega) (by omega)), if_neg (nI_ge (by omega) (by omega)), g1 (by omega) (by omega), g2 (by omega), h1 i (by omega) (by omega), if_pos (show nI 0 = 0 from rfl), li1, nI_add, ih n (i + 1) a (fun j q1 q2 => h1 j (by omega) (by omega)) (by omega) h3, show i + 1 + k = i + (k + 1) by omega]
theorem mb_end {T n lim a i : Nat} {τ : gS} (h : lim ≤ a) (ha : a < 2147483648) : fn_X3_moveBack_L17 T (n + 1) (nI lim) (nI a) (nI i) τ = some (nI a, τ) := by
  rw [fn_X3_moveBack_L17]
  split
  · rfl
  · rw [if_pos (nI_le h ha)]
theorem ma_end {T n lim a i : Nat} {σ : gS} (h : lim ≤ a) (ha : a < 2147483648) : fn_X1_bringHome_L4 T (n + 1) (nI lim) (nI a) (nI i) σ = some (nI a, σ) := by
  rw [fn_X1_bringHome_L4]
  split
  · rfl
  · rw [if_pos (nI_le h ha)]
theorem moveLoop {T lim : Nat} (hl : lim ≤ 21) : ∀ (k s mA mB a : Nat) (σ τ : gS), s + k = T → k < mA → 4 * k < mB → a ≤ lim → RR T σ τ → ∃ (r : Int32) (σ1 τ1 : gS), fn_X1_bringHome_L4 T mA (nI lim) (nI a) (nI s) σ = some (r, σ1) ∧ fn_X3_moveBack_L17 T mB (nI lim) (nI a) (nI (4 * s)) τ = some (r, τ1) ∧ RR T σ1 τ1 := by
  intro k
  induction k with
  | zero =>
    intro s mA mB a σ τ h1 h2 h3 h4 hR
    have hT := rr_T hR
    obtain ⟨mA, rfl⟩ : ∃ n', mA = n' + 1 := ⟨mA - 1, by omega⟩
    obtain ⟨mB, rfl⟩ : ∃ n', mB = n' + 1 := ⟨mB - 1, by omega⟩
    refine ⟨nI a, σ, τ, ?_, ?_, hR⟩
    · rw [fn_X1_bringHome_L4, rr_s6 hR, if_pos (nI_le (by omega) (by omega))]
    · rw [fn_X3_moveBack_L17, rr_t0 hR, li4, pk_mul, if_pos (nI_le (by omega) (by omega))]
  | succ k ih =>
    intro s mA mB a σ τ h1 h2 h3 h4 hR
    have hT := rr_T hR
    obtain ⟨mA, rfl⟩ : ∃ n', mA = n' + 1 := ⟨mA - 1, by omega⟩
    by_cases hal : lim ≤ a
    · obtain ⟨mB, rfl⟩ : ∃ n', mB = n' + 1 := ⟨mB - 1, by omega⟩
      exact ⟨nI a, σ, τ, ma_end hal (by omega), mb_end hal (by omega), hR⟩
    · have hs : s < T := by omega
      obtain ⟨mB, rfl⟩ : ∃ n', mB = n' + 4 := ⟨mB - 4, by omega⟩
      obtain ⟨m, m1, m2, m3, m4⟩ := hR.2.2.2.1 s hs
      have astep : fn_X1_bringHome_L4 T (mA + 1) (nI lim) (nI a) (nI s) σ = if σ 4 s = nI 4 then fn_X1_bringHome_L4 T mA (nI lim) (nI a) (nI (s + 1)) σ else gs_ob (fn_X1_home T (nI s) (σ 4 s) σ) fun r1 σ2 => gs_gd r1 7 <| if σ2 0 r1.toNatClampNeg = 0 then fn_X1_bringHome_L4 T mA (nI lim) (nI a) (nI (s + 1)) σ2 else gs_lt (gs_st σ2 4 (upd (σ2 4) s 4)) fun σ3 => fn_X1_bringHome_L4 T mA (nI lim) (nI (a + 1)) (nI (s + 1)) σ3 := by
        rw [fn_X1_bringHome_L4, rr_s6 hR, if_neg (nI_ge (by omega) (by omega)), if_neg (nI_ge (by omega) (by omega))]
        simp (disch := omega) only [g1, g2, li1, nI_add]
        rfl
      by_cases h44 : m = 4
      · obtain ⟨r, σ1, τ1, f1, f2, hR1⟩ := ih (s + 1) mA mB a σ τ (by omega) (by omega) (by omega) h4 hR
        refine ⟨r, σ1, τ1, ?_, ?_, hR1⟩
        · rw [astep, m2, h44, if_pos rfl]; exact f1
        · rw [mb_skip hT.2 (rr_t0 hR) hl 4 mB (4 * s) a (fun j q1 q2 => ?_) (by omega) (by omega)]
          · exact f2
          · have hz := m3 (j - 4 * s) (by omega)
            rw [if_neg (by omega), show 4 * s + (j - 4 * s) = j by omega] at hz
            exact hz
      · have hq4 : m < 4 := by omega
        have hlt := hm_lt s m
        have hne4 : ¬ nI m = nI 4 := nI_ne h44 (by omega) (by omega)
        have hz : ∀ j, 4 * s ≤ j → j < 4 * s + 4 → j ≠ 4 * s + m → τ 4 j = nI 0 := by
          intro j q1 q2 q3
          have hz := m3 (j - 4 * s) (by omega)
          rw [if_neg (by omega), show 4 * s + (j - 4 * s) = j by omega] at hz
          exact hz
        have h1m : τ 4 (4 * s + m) = nI 1 := by
          have hz := m3 m hq4
          rw [if_pos rfl] at hz
          exact hz
        have bstep : ∀ n, fn_X3_moveBack_L17 T (n + 1) (nI lim) (nI a) (nI (4 * s + m)) τ = if τ 5 (hm s m) = 0 then fn_X3_moveBack_L17 T n (nI lim) (nI (a + 1)) (nI (4 * s + m + 1)) (gs_st τ 4 (upd (τ 4) (4 * s + m) 0)) else fn_X3_moveBack_L17 T n (nI lim) (nI a) (nI (4 * s + m + 1)) τ := by
          intro n
          have hb := b_home (T := T) (τ := τ) (show 4 * s + m < 84 by omega)
          rw [show (4 * s + m) / 4 = s by omega, show (4 * s + m) % 4 = m by omega] at hb
          rw [fn_X3_moveBack_L17, rr_t0 hR, li4, pk_mul, if_neg (nI_ge (by omega) (by omega)), if_neg (nI_ge (by omega) (by omega)), g1 (by omega) (by omega), g2 (by omega), h1m, if_neg e10n, hb, gob, g1 hlt (by omega), g2 (by omega), g1 (by omega) (by omega), nb0, li1, nI_add, nI_add]
          rfl
        have bpre : ∀ n, fn_X3_moveBack_L17 T (n + 4) (nI lim) (nI a) (nI (4 * s)) τ = fn_X3_moveBack_L17 T (n + (3 - m) + 1) (nI lim) (nI a) (nI (4 * s + m)) τ := by
          intro n
          rw [← mb_skip hT.2 (rr_t0 hR) hl m (n + (3 - m) + 1) (4 * s) a (fun j q1 q2 => hz j q1 (by omega) (by omega)) (by omega) (by omega), show n + (3 - m) + 1 + m = n + 4 by omega]
        rcases rr_p hR hlt with ⟨p1, p2⟩ | ⟨p1, p2⟩
        · have hR' := rr_hom hR hs hq4 m2
          have ea : fn_X1_bringHome_L4 T (mA + 1) (nI lim) (nI a) (nI s) σ = fn_X1_bringHome_L4 T mA (nI lim) (nI (a + 1)) (nI (s + 1)) (gs_st σ 4 (upd (σ 4) s 4)) := by
            rw [astep, m2, if_neg hne4, a_home (by omega) hq4, gob, g1 hlt (by omega), g2 (by omega), p1, if_neg e10, glt]
          have eb : fn_X3_moveBack_L17 T (mB + 4) (nI lim) (nI a) (nI (4 * s)) τ = fn_X3_moveBack_L17 T (mB + (3 - m)) (nI lim) (nI (a + 1)) (nI (4 * s + m + 1)) (gs_st τ 4 (upd (τ 4) (4 * s + m) 0)) := by
            rw [bpre, bstep, p2, if_pos rfl]
          by_cases hal2 : lim ≤ a + 1
          · refine ⟨nI (a + 1), _, _, ?_, ?_, hR'⟩
            · obtain ⟨mA, rfl⟩ : ∃ n', mA = n' + 1 := ⟨mA - 1, by omega⟩
              rw [ea, ma_end hal2 (by omega)]
            · rw [eb, show mB + (3 - m) = (mB + (3 - m) - 1) + 1 by omega, mb_end hal2 (by omega)]
          · obtain ⟨r, σ1, τ1, f1, f2, hR1⟩ := ih (s + 1) mA mB (a + 1) _ _ (by omega) (by omega) (by omega) (by omega) hR'
            refine ⟨r, σ1, τ1, ?_, ?_, hR1⟩
            · rw [ea]; exact f1
            · rw [eb, mb_skip hT.2 (rr_t0 hR') hl (3 - m) mB (4 * s + m + 1) (a + 1) (fun j q1 q2 => ?_) (by omega) (by omega), show 4 * s + m + 1 + (3 - m) = 4 * (s + 1) by omega]
              · exact f2
              · show upd (τ 4) (4 * s + m) 0 j = nI 0
                rw [pk_un (by omega)]
                exact hz j (by omega) (by omega) (by omega)
        · obtain ⟨r, σ1, τ1, f1, f2, hR1⟩ := ih (s + 1) mA mB a σ τ (by omega) (by omega) (by omega) h4 hR
          refine ⟨r, σ1, τ1, ?_, ?_, hR1⟩
          · rw [astep, m2, if_neg hne4, a_home (by omega) hq4, gob, g1 hlt (by omega), g2 (by omega), p1, if_pos rfl]; exact f1
          · rw [bpre, bstep, p2, if_neg e10, mb_skip hT.2 (rr_t0 hR) hl (3 - m) mB (4 * s + m + 1) a (fun j q1 q2 => hz j (by omega) (by omega) (by omega)) (by omega) (by omega), show 4 * s + m + 1 + (3 - m) = 4 * (s + 1) by omega]
            exact f2
theorem b_amount_no {x : Int32} (ho : x < 1 ∨ 21 < x) : x < 1 ∨ (¬ x < 1 ∧ ¬ x ≤ 21) := by
  rcases ho with h | h
  · exact Or.inl h
  · by_cases h1 : x < 1
    · exact Or.inl h1
    · refine Or.inr ⟨h1, fun q => ?_⟩
      rw [Int32.lt_iff_toInt_lt] at h
      rw [Int32.le_iff_toInt_le] at q
      omega
theorem sim_moveBack {T : Nat} (_ : T = 7 ∨ T = 14 ∨ T = 21) : sm1 (fn_X2_moveBack T) (fn_X3_moveBack T) (RR T) := by
  intro σ τ a hR
  have hT := rr_T hR
  rcases amount a with ho | ⟨j, h1, h2, rfl⟩
  · refine ⟨-1, σ, τ, ?_, ?_, hR⟩
    · simp only [fn_X2_moveBack, a_isAmount_no ho, gob, if_true]
    · unfold fn_X3_moveBack
      rcases b_amount_no ho with h | ⟨h, h'⟩
      · rw [if_pos h]
      · rw [if_neg h, if_neg h']
  · obtain ⟨r, σ1, τ1, e1, e2, hR1⟩ := moveLoop h2 T 0 gs_fu gs_fu 0 σ τ (by omega) (by rw [fu_e]; omega) (by rw [fu_e]; omega) (by omega) hR
    refine ⟨r, σ1, τ1, ?_, ?_, hR1⟩
    · simp only [fn_X2_moveBack, a_isAmount_in h1 h2, gob, if_neg e10, fn_X1_bringHome]
      rw [show fn_X1_bringHome_L4 T gs_fu (nI j) 0 0 σ = some (r, σ1) from e1]; rfl
    · unfold fn_X3_moveBack
      rw [if_neg (by rw [li1, c_lt (by omega) (by omega)]; omega), if_pos (by rw [li21, c_le (by omega) (by omega)]; omega)]
      exact e2
/-! rebuild -/
theorem upd_id {f : Nat → Int32} {i : Nat} {v : Int32} (h : f i = v) : upd f i v = f := by
  funext j
  by_cases hj : j = i
  · rw [hj, pk_us, h]
  · exact pk_un hj
theorem bx_ext {x y : Int32} (h : ∀ i, i < 32 → x.toBitVec.getLsbD i = y.toBitVec.getLsbD i) : x = y := by
  apply Int32.toBitVec_inj.mp
  exact BitVec.eq_of_getLsbD_eq h
theorem xr0 (a b c : Int32) : ((0 ^^^ b) ^^^ c) ^^^ ((a ^^^ b) ^^^ c) = a := by
  apply bx_ext
  intro i hi
  simp only [Int32.toBitVec_xor, BitVec.getLsbD_xor, show (0 : Int32).toBitVec.getLsbD i = false from by simp]
  cases a.toBitVec.getLsbD i <;> cases b.toBitVec.getLsbD i <;> cases c.toBitVec.getLsbD i <;> rfl
theorem xr1 (a b c : Int32) : ((0 ^^^ a) ^^^ c) ^^^ ((a ^^^ b) ^^^ c) = b := by
  apply bx_ext
  intro i hi
  simp only [Int32.toBitVec_xor, BitVec.getLsbD_xor, show (0 : Int32).toBitVec.getLsbD i = false from by simp]
  cases a.toBitVec.getLsbD i <;> cases b.toBitVec.getLsbD i <;> cases c.toBitVec.getLsbD i <;> rfl
theorem xr2 (a b c : Int32) : ((0 ^^^ a) ^^^ b) ^^^ ((a ^^^ b) ^^^ c) = c := by
  apply bx_ext
  intro i hi
  simp only [Int32.toBitVec_xor, BitVec.getLsbD_xor, show (0 : Int32).toBitVec.getLsbD i = false from by simp]
  cases a.toBitVec.getLsbD i <;> cases b.toBitVec.getLsbD i <;> cases c.toBitVec.getLsbD i <;> rfl
theorem xr3 (a b c : Int32) : ((0 ^^^ a) ^^^ b) ^^^ c = (a ^^^ b) ^^^ c := by
  apply bx_ext
  intro i hi
  simp only [Int32.toBitVec_xor, BitVec.getLsbD_xor, show (0 : Int32).toBitVec.getLsbD i = false from by simp]
  cases a.toBitVec.getLsbD i <;> cases b.toBitVec.getLsbD i <;> cases c.toBitVec.getLsbD i <;> rfl
theorem wo_step {T s col n c : Nat} {ρ : gS} {w : Int32} (hT : T ≤ 21) (hs : s < T) (hc : c < 4) (hcol : col < 4) : fn_X1_wordFromOthers_L5 T (n + 1) (nI s) (nI col) w (nI c) ρ = fn_X1_wordFromOthers_L5 T n (nI s) (nI col) (if c = col then w else w ^^^ ρ 2 (4 * s + c)) (nI (c + 1)) ρ := by
  rw [fn_X1_wordFromOthers_L5, li4, if_neg (nI_ge (by omega) (by omega)), a_place, gob, g1 (by omega) (by omega), g2 (by omega), li1, nI_add]
  by_cases h : c = col
  · rw [if_pos h, if_pos (by rw [h])]
  · rw [if_neg h, if_neg (nI_ne h (by omega) (by omega))]
theorem a_wfo {T s col : Nat} {ρ : gS} {w0 w1 w2 : Int32} (hT : T ≤ 21) (hs : s < T) (hcol : col < 4) (h0 : col ≠ 0 → ρ 2 (4 * s) = w0) (h1 : col ≠ 1 → ρ 2 (4 * s + 1) = w1) (h2 : col ≠ 2 → ρ 2 (4 * s + 2) = w2) (h3 : col ≠ 3 → ρ 2 (4 * s + 3) = (w0 ^^^ w1) ^^^ w2) : fn_X1_wordFromOthers T (nI s) (nI col) ρ = some (match col with | 0 => w0 | 1 => w1 | 2 => w2 | _ => (w0 ^^^ w1) ^^^ w2, ρ) := by
  have e : fn_X1_wordFromOthers T (nI s) (nI col) ρ = fn_X1_wordFromOthers_L5 T (195 + 1 + 1 + 1 + 1 + 1) (nI s) (nI col) 0 (nI 0) ρ := rfl
  rw [e, wo_step hT hs (by omega) hcol, wo_step hT hs (by omega) hcol, wo_step hT hs (by omega) hcol, wo_step hT hs (by omega) hcol, fn_X1_wordFromOthers_L5, if_pos (show (4 : Int32) ≤ nI (0 + 1 + 1 + 1 + 1) by decide)]
  rcases (show col = 0 ∨ col = 1 ∨ col = 2 ∨ col = 3 by omega) with rfl | rfl | rfl | rfl
  · show some (((0 ^^^ ρ 2 (4 * s + 1)) ^^^ ρ 2 (4 * s + 2)) ^^^ ρ 2 (4 * s + 3), ρ) = some (w0, ρ)
    rw [h1 (by omega), h2 (by omega), h3 (by omega), xr0]
  · show some (((0 ^^^ ρ 2 (4 * s)) ^^^ ρ 2 (4 * s + 2)) ^^^ ρ 2 (4 * s + 3), ρ) = some (w1, ρ)
    rw [h0 (by omega), h2 (by omega), h3 (by omega), xr1]
  · show some (((0 ^^^ ρ 2 (4 * s)) ^^^ ρ 2 (4 * s + 1)) ^^^ ρ 2 (4 * s + 3), ρ) = some (w2, ρ)
    rw [h0 (by omega), h1 (by omega), h3 (by omega), xr2]
  · show some (((0 ^^^ ρ 2 (4 * s)) ^^^ ρ 2 (4 * s + 1)) ^^^ ρ 2 (4 * s + 2), ρ) = some ((w0 ^^^ w1) ^^^ w2, ρ)
    rw [h0 (by omega), h1 (by omega), h2 (by omega), xr3]
theorem firstL (τ : gS) (s : Nat) : ∃ c0, c0 ≤ 4 ∧ (∀ c, c < c0 → τ 3 (4 * s + c) = 0) ∧ (c0 < 4 → ¬ τ 3 (4 * s + c0) = 0) := by
  by_cases h0 : τ 3 (4 * s + 0) = 0
  · by_cases h1 : τ 3 (4 * s + 1) = 0
    · by_cases h2 : τ 3 (4 * s + 2) = 0
      · by_cases h3 : τ 3 (4 * s + 3) = 0
        · refine ⟨4, by omega, fun c hc => ?_, fun q => by omega⟩
          rcases (show c = 0 ∨ c = 1 ∨ c = 2 ∨ c = 3 by omega) with rfl | rfl | rfl | rfl <;> assumption
        · refine ⟨3, by omega, fun c hc => ?_, fun _ => h3⟩
          rcases (show c = 0 ∨ c = 1 ∨ c = 2 by omega) with rfl | rfl | rfl <;> assumption
      · refine ⟨2, by omega, fun c hc => ?_, fun _ => h2⟩
        rcases (show c = 0 ∨ c = 1 by omega) with rfl | rfl <;> assumption
    · refine ⟨1, by omega, fun c hc => ?_, fun _ => h1⟩
      rw [show c = 0 by omega]; exact h0
  · exact ⟨0, by omega, fun c hc => by omega, fun _ => h0⟩
theorem a_firstLost {T s c0 : Nat} {σ τ : gS} (hR : RR T σ τ) (hs : s < T) (h0 : c0 ≤ 4) (h1 : ∀ c, c < c0 → τ 3 (4 * s + c) = 0) (h2 : c0 < 4 → ¬ τ 3 (4 * s + c0) = 0) : fn_X1_firstLost T (nI s) σ = some (nI c0, σ) := by
  have hT := rr_T hR
  have key : ∀ (k n c : Nat), c + k = 4 → c ≤ c0 → k < n → fn_X1_firstLost_L2 T n (nI s) (nI c) σ = some (nI c0, σ) := by
    intro k
    induction k with
    | zero =>
      intro n c q1 q2 q3
      obtain ⟨n, rfl⟩ : ∃ n', n = n' + 1 := ⟨n - 1, by omega⟩
      rw [fn_X1_firstLost_L2, show c = 4 by omega, if_pos (show (4 : Int32) ≤ nI 4 by decide), show c0 = 4 by omega]; rfl
    | succ k ih =>
      intro n c q1 q2 q3
      obtain ⟨n, rfl⟩ : ∃ n', n = n' + 1 := ⟨n - 1, by omega⟩
      rw [fn_X1_firstLost_L2, li4, if_neg (nI_ge (by omega) (by omega)), a_isLost hT.2 hs (by omega) (rr_z3 hR), gob, (rr_w hR (show 4 * s + c < 4 * T by omega)).2.2, li1, nI_add]
      by_cases hcc : c = c0
      · subst hcc
        rw [if_neg (h2 (by omega))]
      · rw [h1 c (by omega), if_pos rfl]
        exact ih n (c + 1) (by omega) (by omega) (by omega)
  exact key 4 gs_fu 0 rfl (Nat.zero_le _) (by rw [fu_e]; omega)
theorem rb_skip {T s : Nat} {τ : gS} (hs : s < 21) : ∀ (k n c : Nat), c + k ≤ 4 → (∀ c', c ≤ c' → c' < c + k → τ 3 (4 * s + c') = 0) → fn_X3_rebuilt_L14 T (n + k) (nI s) (nI (4 * s + c)) τ = fn_X3_rebuilt_L14 T n (nI s) (nI (4 * s + (c + k))) τ := by
  intro k
  induction k with
  | zero => intro n c _ _; rfl
  | succ k ih =>
    intro n c h1 h2
    rw [show n + (k + 1) = (n + k) + 1 by omega, fn_X3_rebuilt_L14, li4, pk_mul, nI_add, if_neg (nI_ge (by omega) (by omega)), g1 (by omega) (by omega), g2 (by omega), h2 c (by omega) (by omega), if_pos rfl, g1 (by omega) (by omega), if_pos rfl, li1, nI_add]
    have h3 := ih n (c + 1) (by omega) (fun c' q1 q2 => h2 c' (by omega) (by omega))
    rw [show c + 1 + k = c + (k + 1) by omega] at h3
    exact h3
theorem rb_end {T n s : Nat} {τ : gS} (hs : s < 21) : fn_X3_rebuilt_L14 T (n + 1) (nI s) (nI (4 * s + 4)) τ = some (0, τ) := by
  rw [fn_X3_rebuilt_L14, li4, pk_mul, nI_add, if_pos (Int32.le_refl _)]
theorem rr_fix {T s c : Nat} {σ τ : gS} {w : Int32} (h : RR T σ τ) (hs : s < T) (hc : c < 4) (h4 : τ 4 (4 * s + c) = 0) : RR T (gs_st (gs_st σ 2 (upd (σ 2) (4 * s + c) w)) 3 (upd (σ 3) (4 * s + c) 0)) (gs_st (gs_st (gs_st τ 3 (upd (τ 3) (4 * s + c) 0)) 2 (upd (τ 2) (4 * s + c) w)) 4 (upd (τ 4) (4 * s + c) 0)) := by
  obtain ⟨hN, hW, hX, hM, hP, hF⟩ := h
  refine ⟨hN, fun i hi => ?_, hX, fun j hj => ?_, hP, hF⟩
  · obtain ⟨w1, w2, w3, w4⟩ := hW i hi
    refine ⟨w1, ?_, ?_, ?_⟩
    · show upd (σ 2) (4 * s + c) w i = upd (τ 2) (4 * s + c) w i
      by_cases hq : i = 4 * s + c
      · rw [hq, pk_us, pk_us]
      · rw [pk_un hq, pk_un hq]; exact w2
    · show upd (σ 3) (4 * s + c) 0 i = upd (τ 3) (4 * s + c) 0 i
      by_cases hq : i = 4 * s + c
      · rw [hq, pk_us, pk_us]
      · rw [pk_un hq, pk_un hq]; exact w3
    · show upd (τ 3) (4 * s + c) 0 i = 0 ∨ upd (τ 3) (4 * s + c) 0 i = 1
      by_cases hq : i = 4 * s + c
      · rw [hq, pk_us]; exact Or.inl rfl
      · rw [pk_un hq]; exact w4
  · obtain ⟨n, n1, n2, n3, n4⟩ := hM j hj
    refine ⟨n, n1, n2, fun c' hc' => ?_, fun hn => ?_⟩
    · show upd (τ 4) (4 * s + c) 0 (4 * j + c') = if n = c' then 1 else 0
      rw [upd_id h4]; exact n3 c' hc'
    · show upd (τ 3) (4 * s + c) 0 (4 * j + n) = 0
      by_cases hq : 4 * j + n = 4 * s + c
      · rw [hq, pk_us]
      · rw [pk_un hq]; exact n4 hn
theorem rr_away {T s c : Nat} {σ τ : gS} {w : Int32} (h : RR T σ τ) (hs : s < T) (hc : c < 4) (h4 : σ 4 s = nI 4) : RR T (gs_st (gs_st (gs_st σ 4 (upd (σ 4) s (nI c))) 2 (upd (σ 2) (4 * s + c) w)) 3 (upd (σ 3) (4 * s + c) 0)) (gs_st (gs_st (gs_st τ 3 (upd (τ 3) (4 * s + c) 0)) 2 (upd (τ 2) (4 * s + c) w)) 4 (upd (τ 4) (4 * s + c) 1)) := by
  obtain ⟨hN, hW, hX, hM, hP, hF⟩ := h
  refine ⟨hN, fun i hi => ?_, hX, fun j hj => ?_, hP, hF⟩
  · obtain ⟨w1, w2, w3, w4⟩ := hW i hi
    refine ⟨w1, ?_, ?_, ?_⟩
    · show upd (σ 2) (4 * s + c) w i = upd (τ 2) (4 * s + c) w i
      by_cases hq : i = 4 * s + c
      · rw [hq, pk_us, pk_us]
      · rw [pk_un hq, pk_un hq]; exact w2
    · show upd (σ 3) (4 * s + c) 0 i = upd (τ 3) (4 * s + c) 0 i
      by_cases hq : i = 4 * s + c
      · rw [hq, pk_us, pk_us]
      · rw [pk_un hq, pk_un hq]; exact w3
    · show upd (τ 3) (4 * s + c) 0 i = 0 ∨ upd (τ 3) (4 * s + c) 0 i = 1
      by_cases hq : i = 4 * s + c
      · rw [hq, pk_us]; exact Or.inl rfl
      · rw [pk_un hq]; exact w4
  · obtain ⟨n, n1, n2, n3, n4⟩ := hM j hj
    by_cases hjs : j = s
    · subst hjs
      have hn4 : n = 4 := by
        rw [h4] at n2
        exact ((nI_eq (by omega) (by omega)).mp n2).symm
      subst hn4
      refine ⟨c, by omega, pk_us, fun c' hc' => ?_, fun _ => pk_us⟩
      show upd (τ 4) (4 * j + c) 1 (4 * j + c') = if c = c' then 1 else 0
      by_cases hq : c = c'
      · rw [if_pos hq, hq, pk_us]
      · rw [if_neg hq, pk_un (by omega), n3 c' hc', if_neg (by omega)]
    · refine ⟨n, n1, (pk_un hjs).trans n2, fun c' hc' => ?_, fun hn => ?_⟩
      · show upd (τ 4) (4 * s + c) 1 (4 * j + c') = if n = c' then 1 else 0
        rw [pk_un (by omega)]; exact n3 c' hc'
      · show upd (τ 3) (4 * s + c) 0 (4 * j + n) = 0
        rw [pk_un (by omega)]; exact n4 hn
