/-! PURE ROWS: create (own work) -/
theorem firstBoth {T f w : Nat} {σ τ : gS} (hR : RR T σ τ) (hf : f < 8) (hw : 1 ≤ w) (hw2 : w ≤ 63) : (∃ b, b < 3 * T ∧ w ≤ rn τ T b ∧ fn_X0_firstRunOf T (nI w) σ = some (nI b, σ) ∧ fn_X3_place T (nI f) (nI w) τ = gs_ob (fn_X3_give T (nI f) (nI b) (nI w) τ) fun _ σ14 => some (1, σ14)) ∨ (fn_X0_firstRunOf T (nI w) σ = some (-1, σ) ∧ fn_X3_place T (nI f) (nI w) τ = fn_X3_place_L41 T gs_fu (nI f) (nI w) 0 τ) := by
  have hT := rr_T hR
  have key : ∀ (k b mA mB : Nat), b + k = 3 * T → k < mA → k < mB → (∃ b', b' < 3 * T ∧ w ≤ rn τ T b' ∧ fn_X0_firstRunOf_L2 T mA (nI w) (nI b) σ = some (nI b', σ) ∧ fn_X3_place_L2 T mB (nI f) (nI w) (nI b) τ = gs_ob (fn_X3_give T (nI f) (nI b') (nI w) τ) fun _ σ14 => some (1, σ14)) ∨ (fn_X0_firstRunOf_L2 T mA (nI w) (nI b) σ = some (-1, σ) ∧ fn_X3_place_L2 T mB (nI f) (nI w) (nI b) τ = fn_X3_place_L41 T gs_fu (nI f) (nI w) 0 τ) := by
    intro k
    induction k with
    | zero =>
      intro b mA mB h1 h2 h3
      obtain ⟨mA, rfl⟩ : ∃ n', mA = n' + 1 := ⟨mA - 1, by omega⟩
      obtain ⟨mB, rfl⟩ : ∃ n', mB = n' + 1 := ⟨mB - 1, by omega⟩
      right
      constructor
      · rw [fn_X0_firstRunOf_L2, if_pos (nI_le (by omega) (by omega))]
      · rw [fn_X3_place_L2, rr_t0 hR, li3, pk_mul, if_pos (nI_le (by omega) (by omega))]
    | succ k ih =>
      intro b mA mB h1 h2 h3
      obtain ⟨mA, rfl⟩ : ∃ n', mA = n' + 1 := ⟨mA - 1, by omega⟩
      obtain ⟨mB, rfl⟩ : ∃ n', mB = n' + 1 := ⟨mB - 1, by omega⟩
      have hb : b < 3 * T := by omega
      have l1 := rn_le τ T b
      by_cases hq : rn τ T b < w
      · have eB : fn_X3_place_L2 T (mB + 1) (nI f) (nI w) (nI b) τ = fn_X3_place_L2 T mB (nI f) (nI w) (nI (b + 1)) τ := by
          rw [fn_X3_place_L2, rr_t0 hR, li3, pk_mul, if_neg (nI_ge (by omega) (by omega)), b_run hT.2 (rr_t0 hR) hb, gob, if_pos (nI_lt hq (by omega)), li1, nI_add]
        have eA : fn_X0_firstRunOf_L2 T (mA + 1) (nI w) (nI b) σ = fn_X0_firstRunOf_L2 T mA (nI w) (nI (b + 1)) σ := by
          rw [fn_X0_firstRunOf_L2, if_neg (nI_ge (by omega) (by omega))]
          rcases a_run hR hb with ⟨r0, s0⟩ | ⟨r1, s1, s2⟩
          · rw [s0, gob, if_pos rfl, li1, nI_add]
          · rw [s1, gob, if_neg e10, s2, gob, if_pos (nI_lt hq (by omega)), li1, nI_add]
        rw [eA, eB]
        exact ih (b + 1) mA mB (by omega) (by omega) (by omega)
      · left
        refine ⟨b, hb, by omega, ?_, ?_⟩
        · rw [fn_X0_firstRunOf_L2, if_neg (nI_ge (by omega) (by omega))]
          rcases a_run hR hb with ⟨r0, s0⟩ | ⟨r1, s1, s2⟩
          · omega
          · rw [s1, gob, if_neg e10, s2, gob, if_neg (nI_nlt (by omega) (by omega))]
        · rw [fn_X3_place_L2, rr_t0 hR, li3, pk_mul, if_neg (nI_ge (by omega) (by omega)), b_run hT.2 (rr_t0 hR) hb, gob, if_neg (nI_nlt (by omega) (by omega))]
  exact key (3 * T) 0 gs_fu gs_fu (by omega) (by rw [fu_e]; omega) (by rw [fu_e]; omega)
theorem run_free {T b n : Nat} {τ : gS} (hn : n ≤ rn τ T b) (h1 : 1 ≤ n) : ∀ j, b ≤ j → j < b + n → τ 6 j = 0 := by
  intro j hj hj2
  have hs : sR τ b := rn_s (T := T) (by omega)
  rw [rn_y hs] at hn
  exact rlk_free τ (3 * T - b) b j hj (by omega)
/-- with no free run left the class's loop comes to its release -/
theorem makeNone {T f w m S : Nat} {σ τ : gS} (hR : RR T σ τ) (hf : f < 8) (hS : σ 8 f = nI S) (hSw : S < w) (hw2 : w ≤ 63) (hm : fn_X0_longestRun T σ = some (-1, σ)) : ∀ (k e mA : Nat), e + k = 3 → k < mA → fn_X0_make_L23 T mA (nI f) (nI w) (nI e) σ = gs_ob (fn_X0_release T (nI f) σ) fun _ σ4 => some (0, σ4) := by
  intro k
  induction k with
  | zero =>
    intro e mA h1 h2
    obtain ⟨mA, rfl⟩ : ∃ n', mA = n' + 1 := ⟨mA - 1, by omega⟩
    rw [fn_X0_make_L23, li3, if_pos (nI_le (by omega) (by omega)), g1 hf (by omega), g2 (by omega), hS, if_neg (nI_ge hSw (by omega))]
  | succ k ih =>
    intro e mA h1 h2
    obtain ⟨mA, rfl⟩ : ∃ n', mA = n' + 1 := ⟨mA - 1, by omega⟩
    rw [fn_X0_make_L23, li3, if_neg (nI_ge (by omega) (by omega)), g1 hf (by omega), g2 (by omega), hS, if_neg (nI_ge hSw (by omega)), g1 hf (by omega)]
    unfold fn_X0_addLongestRun
    rw [hm, gob, if_pos rfl, gob, li1, nI_add]
    exact ih (e + 1) mA (by omega) (by omega)
theorem makeLoop {T f w : Nat} (hf : f < 8) (hw2 : w ≤ 63) : ∀ (k e mA mB left : Nat) (σ τ : gS) (st sz : Nat → Nat), e + k = 3 → k < mA → k < mB → RR T σ τ → rE T σ τ f e st sz → sumN sz e + left = w → (∃ σ1 τ1, fn_X0_make_L23 T mA (nI f) (nI w) (nI e) σ = some (1, σ1) ∧ fn_X3_place_L41 T mB (nI f) (nI left) (nI e) τ = some (1, τ1) ∧ RR T σ1 τ1) ∨ ∃ σ1 τ1, fn_X0_make_L23 T mA (nI f) (nI w) (nI e) σ = (gs_ob (fn_X0_release T (nI f) σ1) fun _ σ4 => some (0, σ4)) ∧ fn_X3_place_L41 T mB (nI f) (nI left) (nI e) τ = some (0, τ1) ∧ RR T σ1 τ1 := by
  intro k
  induction k with
  | zero =>
    intro e mA mB left σ τ st sz h1 h2 h3 hR hE hsum
    obtain ⟨mA, rfl⟩ : ∃ n', mA = n' + 1 := ⟨mA - 1, by omega⟩
    obtain ⟨mB, rfl⟩ : ∃ n', mB = n' + 1 := ⟨mB - 1, by omega⟩
    have q8 := hE.2.2.2.2.1
    by_cases hl : left = 0
    · left
      refine ⟨σ, τ, ?_, ?_, hR⟩
      · rw [fn_X0_make_L23, li3, if_pos (nI_le (by omega) (by omega)), g1 hf (by omega), g2 (by omega), q8, if_pos (nI_le (by omega) (by omega))]
      · rw [fn_X3_place_L41, li3, if_pos (nI_le (by omega) (by omega)), hl, if_pos (show nI 0 = 0 from rfl)]
    · right
      refine ⟨σ, τ, ?_, ?_, hR⟩
      · rw [fn_X0_make_L23, li3, if_pos (nI_le (by omega) (by omega)), g1 hf (by omega), g2 (by omega), q8, if_neg (nI_ge (by omega) (by omega))]
      · rw [fn_X3_place_L41, li3, if_pos (nI_le (by omega) (by omega)), if_neg (show ¬ nI left = 0 from nI_ne (b := 0) hl (by omega) (by omega))]
  | succ k ih =>
    intro e mA mB left σ τ st sz h1 h2 h3 hR hE hsum
    have hT := rr_T hR
    obtain ⟨mA, rfl⟩ : ∃ n', mA = n' + 1 := ⟨mA - 1, by omega⟩
    obtain ⟨mB, rfl⟩ : ∃ n', mB = n' + 1 := ⟨mB - 1, by omega⟩
    have q8 := hE.2.2.2.2.1
    by_cases hl : left = 0
    · left
      refine ⟨σ, τ, ?_, ?_, hR⟩
      · rw [fn_X0_make_L23, li3, if_neg (nI_ge (by omega) (by omega)), g1 hf (by omega), g2 (by omega), q8, if_pos (nI_le (by omega) (by omega)), g1 hf (by omega), if_pos (nI_le (by omega) (by omega))]
      · rw [fn_X3_place_L41, li3, if_neg (nI_ge (by omega) (by omega)), hl, if_pos (show nI 0 ≤ 0 from Int32.le_refl _), if_pos (show nI 0 = 0 from rfl)]
    · obtain ⟨m, hm, l1, l2⟩ := longBoth hR
      have lm := rn_le τ T m
      have hn0 : ¬ nI left ≤ 0 := nI_ge (a := 0) (by omega) (by omega)
      have hne0 : ¬ nI left = 0 := nI_ne (b := 0) hl (by omega) (by omega)
      by_cases r0 : rn τ T m = 0
      · right
        rw [if_pos r0] at l2
        refine ⟨σ, τ, makeNone (m := m) hR hf q8 (by omega) hw2 l2 (k + 1) e (mA + 1) h1 h2, ?_, hR⟩
        rw [fn_X3_place_L41, li3, if_neg (nI_ge (by omega) (by omega)), if_neg hn0, l1, gob, b_run hT.2 (rr_t0 hR) hm, gob, r0, if_neg (show ¬ nI left ≤ nI 0 from hn0), b_run hT.2 (rr_t0 hR) hm, gob, r0, if_pos (show nI 0 = 0 from rfl)]
      · rw [if_neg r0] at l2
        have eA : ∀ n, n = (if left < rn τ T m then left else rn τ T m) → fn_X0_make_L23 T (mA + 1) (nI f) (nI w) (nI e) σ = gs_ob (fn_X0_addExtent T (nI f) (nI m) (nI n) σ) fun _ σ8 => fn_X0_make_L23 T mA (nI f) (nI w) (nI (e + 1)) σ8 := by
          intro n hn
          rw [fn_X0_make_L23, li3, if_neg (nI_ge (by omega) (by omega)), g1 hf (by omega), g2 (by omega), q8, if_neg (nI_ge (by omega) (by omega)), g1 hf (by omega), o_sub (by omega), show w - sumN sz e = left by omega]
          unfold fn_X0_addLongestRun
          rcases a_run hR hm with ⟨z0, _⟩ | ⟨_, _, s2⟩
          · exact absurd z0 r0
          · rw [l2, gob, if_neg (ne_m1 (by omega)), s2, gob, li1, nI_add]
            have en : (if nI left < nI (rn τ T m) then nI left else nI (rn τ T m)) = nI n := by
              rw [hn]
              by_cases hq : left < rn τ T m
              · rw [if_pos hq, if_pos (nI_lt hq (by omega))]
              · rw [if_neg hq, if_neg (nI_nlt (by omega) (by omega))]
            rw [en]
            cases fn_X0_addExtent T (nI f) (nI m) (nI n) σ with
            | none => rfl
            | some q => rfl
        by_cases hq : left ≤ rn τ T m
        · obtain ⟨σ1, τ1, st1, sz1, g1', g2', hR1, hE1, hs1⟩ := giveBoth (b := m) (n := left) hR hf hE (by omega) (by omega) (by omega) (run_free hq (by omega)) (by omega)
          have hnn : left = (if left < rn τ T m then left else rn τ T m) := by
            by_cases hz : left < rn τ T m
            · rw [if_pos hz]
            · rw [if_neg hz]; omega
          have eB : fn_X3_place_L41 T (mB + 1) (nI f) (nI left) (nI e) τ = fn_X3_place_L41 T mB (nI f) (nI 0) (nI (e + 1)) τ1 := by
            rw [fn_X3_place_L41, li3, if_neg (nI_ge (by omega) (by omega)), if_neg hn0, l1, gob, b_run hT.2 (rr_t0 hR) hm, gob, if_pos (nI_le hq (by omega)), if_neg hne0, g2', gob, o_sub (Nat.le_refl _), Nat.sub_self, li1, nI_add]
          rw [eA left hnn, g1', gob, eB]
          exact ih (e + 1) mA mB 0 σ1 τ1 st1 sz1 (by omega) (by omega) (by omega) hR1 hE1 (by omega)
        · obtain ⟨σ1, τ1, st1, sz1, g1', g2', hR1, hE1, hs1⟩ := giveBoth (b := m) (n := rn τ T m) hR hf hE (by omega) (by omega) (by omega) (run_free (Nat.le_refl _) (by omega)) (by omega)
          have eB : fn_X3_place_L41 T (mB + 1) (nI f) (nI left) (nI e) τ = fn_X3_place_L41 T mB (nI f) (nI (left - rn τ T m)) (nI (e + 1)) τ1 := by
            rw [fn_X3_place_L41, li3, if_neg (nI_ge (by omega) (by omega)), if_neg hn0, l1, gob, b_run hT.2 (rr_t0 hR) hm, gob, if_neg (nI_ge (by omega) (by omega)), b_run hT.2 (rr_t0 hR) hm, gob, if_neg (show ¬ nI (rn τ T m) = 0 from nI_ne (b := 0) r0 (by omega) (by omega)), g2', gob, o_sub (by omega), li1, nI_add]
          rw [eA (rn τ T m) (by rw [if_neg (by omega)]), g1', gob, eB]
          exact ih (e + 1) mA mB (left - rn τ T m) σ1 τ1 st1 sz1 (by omega) (by omega) (by omega) hR1 hE1 (by omega)
theorem sim_create {T : Nat} (_ : T = 7 ∨ T = 14 ∨ T = 21) : sm2 (fn_X2_create T) (fn_X3_create T) (RR T) := by
  intro σ τ x y hR
  have hT := rr_T hR
  rcases ix x 8 (by omega) with ho | ⟨f, hf, rfl⟩
  · refine ⟨-1, σ, τ, ?_, ?_, hR⟩
    · unfold fn_X2_create; rw [a_isFile_no ho, gob, if_pos rfl]
    · unfold fn_X3_create; rw [li8, b_in_no ho, gob, if_pos rfl]
  · obtain ⟨E, st, sz, hE⟩ := rr_f hR hf
    unfold fn_X2_create fn_X3_create
    rw [a_isFile_in hf, li8, b_in_in hf (by omega)]
    simp only [gob]
    rw [if_neg e10, if_neg e10]
    by_cases y1 : y < 1
    · rw [if_pos y1, if_pos y1]; exact ⟨-1, σ, τ, rfl, rfl, hR⟩
    by_cases y2 : 63 < y
    · rw [if_neg y1, if_pos y2, if_neg y1, if_pos y2]; exact ⟨-1, σ, τ, rfl, rfl, hR⟩
    rw [if_neg y1, if_neg y2, if_neg y1, if_neg y2, g1 hf (by omega), g2 (by omega), a_isThere hf hE, gob]
    have hE3 := hE.1
    by_cases h0 : τ 9 f = 0
    · have hE0 : E = 0 := by
        have h9 := hE.2.2.1
        rw [h0] at h9
        exact ((nI_eq (a := 0) (by omega) (by omega)).mp h9).symm
      subst hE0
      obtain ⟨w, w1, w2, rfl⟩ : ∃ w, 1 ≤ w ∧ w ≤ 63 ∧ y = nI w := by
        rcases ix y 64 (by omega) with ho | ⟨j, hj, rfl⟩
        · exfalso
          have e1 : (1 : Int32).toInt = 1 := by decide
          have e0 : (0 : Int32).toInt = 0 := by decide
          have e63 : (63 : Int32).toInt = 63 := by decide
          rw [Int32.lt_iff_toInt_lt, e1] at y1
          rw [Int32.lt_iff_toInt_lt, e63] at y2
          rcases ho with ho | ho
          · rw [Int32.lt_iff_toInt_lt, e0] at ho
            omega
          · rw [Int32.le_iff_toInt_le, nI_toInt (by omega)] at ho
            omega
        · refine ⟨j, ?_, by omega, rfl⟩
          rw [li1, c_lt (by omega) (by omega)] at y1
          omega
      rw [if_pos h0, if_pos rfl, if_pos (show τ 9 f ≤ 0 by rw [h0]; exact Int32.le_refl _)]
      have done : ∀ σ1 τ1 : gS, RR T σ1 τ1 → fn_X0_make T (nI f) (nI w) σ = some (1, σ1) → fn_X3_place T (nI f) (nI w) τ = some (1, τ1) → ∃ r σ2 τ2, (gs_ob (fn_X0_make T (nI f) (nI w) σ) fun r5 σ6 => if r5 = 0 then some ((-2 : Int32), σ6) else gs_ob (fn_X0_extentsOf T (nI f) σ6) fun r7 σ8 => some (r7, σ8)) = some (r, σ2) ∧ (gs_ob (fn_X3_place T (nI f) (nI w) τ) fun r3 σ4 => if r3 = 0 then gs_ob (fn_X3_remove T (nI f) σ4) fun r5 σ6 => some ((-2 : Int32), σ6) else gs_gd (nI f) 8 <| some (σ4 9 f, σ4)) = some (r, τ2) ∧ RR T σ2 τ2 := by
        intro σ1 τ1 hR1 m1 m2
        obtain ⟨E1, st1, sz1, hE1⟩ := rr_f hR1 hf
        refine ⟨nI E1, σ1, τ1, ?_, ?_, hR1⟩
        · rw [m1, gob, if_neg e10]
          unfold fn_X0_extentsOf
          rw [g1 hf (by omega), g2 (by omega), hE1.2.1, gob]
        · rw [m2, gob, if_neg e10, g1 hf (by omega), hE1.2.2.1]
      rcases firstBoth hR hf w1 w2 with ⟨b, hb, hrn, e1, e2⟩ | ⟨e1, e2⟩
      · have lb := rn_le τ T b
        obtain ⟨σ1, τ1, st1, sz1, g1', g2', hR1, hE1, hs1⟩ := giveBoth (b := b) (n := w) hR hf hE (by omega) w1 (by omega) (run_free hrn w1) (by show 0 + w ≤ 63; omega)
        refine done σ1 τ1 hR1 ?_ ?_
        · unfold fn_X0_make
          rw [e1, gob, if_neg (ne_m1 (by omega)), g1', gob]
        · rw [e2, g2', gob]
      · have em : fn_X0_make T (nI f) (nI w) σ = fn_X0_make_L23 T gs_fu (nI f) (nI w) (nI 0) σ := by
          unfold fn_X0_make
          rw [e1, gob, if_pos rfl]; rfl
        rcases makeLoop (T := T) hf w2 3 0 gs_fu gs_fu w σ τ st sz rfl (by rw [fu_e]; omega) (by rw [fu_e]; omega) hR hE (by show 0 + w = w; omega) with ⟨σ1, τ1, m1, m2, hR1⟩ | ⟨σ1, τ1, m1, m2, hR1⟩
        · exact done σ1 τ1 hR1 (em.trans m1) (e2.trans m2)
        · obtain ⟨σ2, τ2, r, q1, q2, hR2, _⟩ := relBoth hR1 hf
          refine ⟨-2, σ2, τ2, ?_, ?_, hR2⟩
          · rw [em, m1, q1, gob, gob, if_pos rfl]
          · rw [e2, show fn_X3_place_L41 T gs_fu (nI f) (nI w) 0 τ = some (0, τ1) from m2, gob, if_pos rfl, q2, gob]
    · have hEp : E ≠ 0 := by
        intro q
        subst q
        exact h0 hE.2.2.1
      rw [if_neg h0, if_neg e10, if_neg (show ¬ τ 9 f ≤ 0 by rw [hE.2.2.1]; exact nI_ge (a := 0) (by omega) (by omega))]
      exact ⟨-1, σ, τ, rfl, rfl, hR⟩
