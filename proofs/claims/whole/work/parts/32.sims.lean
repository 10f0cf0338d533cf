/-! PURE ROWS: replace, alter, stripe, mend, scrub, fail, disk (own work) -/
theorem nb1 : vp_nar .boolean 1 = 1 := by decide
theorem nb0 : vp_nar .boolean 0 = 0 := by decide
theorem e00 : (0 : Int32) = 0 := rfl
theorem rr_pres {T d : Nat} {σ τ : gS} {v w : Int32} (h : RR T σ τ) (hv : (v = 1 ∧ w = 0) ∨ (v = 0 ∧ w = 1)) : RR T (gs_st σ 0 (upd (σ 0) d v)) (gs_st τ 5 (upd (τ 5) d w)) := by
  obtain ⟨hN, hW, hX, hM, hP, hF⟩ := h
  refine ⟨hN, hW, hX, hM, fun j hj => ?_, hF⟩
  show (upd (σ 0) d v j = 1 ∧ upd (τ 5) d w j = 0) ∨ (upd (σ 0) d v j = 0 ∧ upd (τ 5) d w j = 1)
  by_cases hjd : j = d
  · rw [hjd, pk_us, pk_us]; exact hv
  · rw [pk_un hjd, pk_un hjd]; exact hP j hj
theorem rr_p {T d : Nat} {σ τ : gS} (h : RR T σ τ) (hd : d < 7) : (σ 0 d = 1 ∧ τ 5 d = 0) ∨ (σ 0 d = 0 ∧ τ 5 d = 1) := h.2.2.2.2.1 d hd
theorem sim_replace {T : Nat} (_ : T = 7 ∨ T = 14 ∨ T = 21) : sm1 (fn_X2_replace T) (fn_X3_replace T) (RR T) := by
  intro σ τ a hR
  rcases ix a 7 (by omega) with ho | ⟨d, hd, rfl⟩
  · refine ⟨-1, σ, τ, ?_, ?_, hR⟩
    · simp only [fn_X2_replace, a_isDisk_no ho, gob, if_true]
    · simp only [fn_X3_replace, li7, b_in_no ho, gob, if_true]
  · rcases rr_p hR hd with ⟨h1, h2⟩ | ⟨h1, h2⟩
    · refine ⟨-1, σ, τ, ?_, ?_, hR⟩
      · simp (disch := omega) only [fn_X2_replace, a_isDisk_in hd, gob, fn_X1_isPresent, g1, g2, h1, gs_bz_1, if_neg e10]
      · simp (disch := omega) only [fn_X3_replace, li7, b_in_in hd, gob, if_neg e10, g1, g2, h2, if_true]
    · refine ⟨0, _, _, ?_, ?_, rr_pres (d := d) (v := 1) (w := 0) hR (Or.inl ⟨rfl, rfl⟩)⟩
      · simp (disch := omega) only [fn_X2_replace, a_isDisk_in hd, gob, fn_X1_isPresent, fn_X1_putIn, g1, g2, h1, gs_bz_0, if_neg e10, if_true, glt, nb1]
      · simp (disch := omega) only [fn_X3_replace, li7, b_in_in hd, gob, if_neg e10, g1, g2, h2, glt, nb0]
theorem sim_alter {T : Nat} (_ : T = 7 ∨ T = 14 ∨ T = 21) : sm3 (fn_X2_alter T) (fn_X3_alter T) (RR T) := by
  intro σ τ a b m hR
  have hT := rr_T hR
  rcases ix a T (by omega) with ho | ⟨s, hs, rfl⟩
  · refine ⟨-1, σ, τ, ?_, ?_, hR⟩
    · simp only [fn_X2_alter, a_isStripe_no hR ho, gob, if_true]
    · simp only [fn_X3_alter, rr_t0 hR, b_in_no ho, gob, if_true]
  · rcases ix b 4 (by omega) with ho | ⟨c, hc, rfl⟩
    · refine ⟨-1, σ, τ, ?_, ?_, hR⟩
      · simp only [fn_X2_alter, a_isStripe_in hR hs, a_isColumn_no ho, gob, if_neg e10, if_true]
      · simp (disch := omega) only [fn_X3_alter, rr_t0 hR, b_in_in hs, li4, b_in_no ho, gob, if_neg e10, if_true]
    · have hi : 4 * s + c < 4 * T := by omega
      have hw := rr_w hR hi
      by_cases h3 : τ 3 (4 * s + c) = 0
      · by_cases hm : m = 0
        · refine ⟨-1, σ, τ, ?_, ?_, hR⟩
          · simp only [fn_X2_alter, a_isStripe_in hR hs, a_isColumn_in hc, a_isLost hT.2 hs hc (rr_z3 hR), gob, if_neg e10, hw.2.2, h3, if_true, if_pos hm]
          · simp (disch := omega) only [fn_X3_alter, rr_t0 hR, b_in_in hs, li4, b_in_in hc, gob, if_neg e10, pk_mul, nI_add, g1, g2, h3, if_true, if_pos hm]
        · refine ⟨0, _, _, ?_, ?_, rr_cell (i := 4 * s + c) (v := σ 2 (4 * s + c) ^^^ m) (w := τ 2 (4 * s + c) ^^^ m) hR (by rw [hw.2.1])⟩
          · simp (disch := omega) only [fn_X2_alter, a_isStripe_in hR hs, a_isColumn_in hc, a_isLost hT.2 hs hc (rr_z3 hR), gob, if_neg e10, hw.2.2, h3, if_true, if_neg hm, fn_X1_flip, a_place, g1, g2, glt]
          · simp (disch := omega) only [fn_X3_alter, rr_t0 hR, b_in_in hs, li4, b_in_in hc, gob, if_neg e10, pk_mul, nI_add, g1, g2, h3, if_true, if_neg hm, glt]
      · refine ⟨-1, σ, τ, ?_, ?_, hR⟩
        · simp only [fn_X2_alter, a_isStripe_in hR hs, a_isColumn_in hc, a_isLost hT.2 hs hc (rr_z3 hR), gob, if_neg e10, hw.2.2, if_neg h3]
        · simp (disch := omega) only [fn_X3_alter, rr_t0 hR, b_in_in hs, li4, b_in_in hc, gob, if_neg e10, pk_mul, nI_add, g1, g2, if_neg h3]
/-! stripe -/
theorem b_movedOf {T s m : Nat} {τ : gS} (hs : s < 21) (hm : m ≤ 4) (h : ∀ c, c < 4 → τ 4 (4 * s + c) = if m = c then 1 else 0) : fn_X3_movedOf T (nI s) τ = some (nI m, τ) := by
  have key : ∀ (k n c : Nat), c + k = 4 → c ≤ m → k < n → fn_X3_movedOf_L2 T n (nI s) (nI c) τ = some (nI m, τ) := by
    intro k
    induction k with
    | zero =>
      intro n c h1 h2 h3
      obtain ⟨n, rfl⟩ : ∃ n', n = n' + 1 := ⟨n - 1, by omega⟩
      rw [fn_X3_movedOf_L2]
      simp (disch := omega) only [li4, c_le, if_pos]
      rw [show m = 4 by omega]
    | succ k ih =>
      intro n c h1 h2 h3
      obtain ⟨n, rfl⟩ : ∃ n', n = n' + 1 := ⟨n - 1, by omega⟩
      rw [fn_X3_movedOf_L2]
      simp (disch := omega) only [li4, c_le, if_neg, pk_mul, nI_add, g1, g2, h c (by omega)]
      by_cases hmc : m = c
      · rw [if_pos hmc, if_neg e10, hmc]
      · rw [if_neg hmc, if_pos rfl, li1, nI_add]
        exact ih n (c + 1) (by omega) (by omega) (by omega)
  exact key 4 gs_fu 0 rfl (Nat.zero_le _) (by rw [fu_e]; omega)
theorem sim_stripe {T : Nat} (_ : T = 7 ∨ T = 14 ∨ T = 21) : sm2 (fn_X2_stripe T) (fn_X3_stripe T) (RR T) := by
  intro σ τ a b hR
  have hT := rr_T hR
  rcases ix a T (by omega) with ho | ⟨s, hs, rfl⟩
  · refine ⟨-1, σ, τ, ?_, ?_, hR⟩
    · simp only [fn_X2_stripe, a_isStripe_no hR ho, gob, if_true]
    · simp only [fn_X3_stripe, rr_t0 hR, b_in_no ho, gob, if_true]
  · rcases ix b 6 (by omega) with ho | ⟨c, hc, rfl⟩
    · have h4 : b < 0 ∨ nI 4 ≤ b := ho.imp id (fun q => by
        rw [Int32.le_iff_toInt_le] at q ⊢
        rw [nI_toInt (by omega)] at q ⊢
        omega)
      have hb4 : ¬ b = 4 := fun q => by subst q; revert ho; decide
      have hb5 : ¬ b = 5 := fun q => by subst q; revert ho; decide
      refine ⟨-1, σ, τ, ?_, ?_, hR⟩
      · simp only [fn_X2_stripe, a_isStripe_in hR hs, a_isColumn_no h4, gob, if_neg e10, if_true, if_neg hb4, if_neg hb5]
      · simp (disch := omega) only [fn_X3_stripe, rr_t0 hR, b_in_in hs, li6, b_in_no ho, gob, if_neg e10, if_true]
    · rcases (show c < 4 ∨ c = 4 ∨ c = 5 by omega) with h4 | rfl | rfl
      · have hi : 4 * s + c < 4 * T := by omega
        have hw := rr_w hR hi
        have n4 : ¬ nI c = 4 := nI_ne (b := 4) (by omega) (by omega) (by omega)
        have n5 : ¬ nI c = 5 := nI_ne (b := 5) (by omega) (by omega) (by omega)
        refine ⟨if τ 3 (4 * s + c) = 0 then nI (nWr τ (4 * s + c)) else 2, σ, τ, ?_, ?_, hR⟩
        · simp only [fn_X2_stripe, a_isStripe_in hR hs, a_isColumn_in h4, gob, if_neg e10, fn_X1_condition, a_isLost hT.2 hs h4 (rr_z3 hR), a_isWrong hT.2 hs h4, hw.2.2, rr_wr hR hi]
          by_cases h3 : τ 3 (4 * s + c) = 0
          · rw [if_pos h3, if_pos h3]
            rcases nWr_01 τ (4 * s + c) with q | q <;> rw [q] <;> rfl
          · rw [if_neg h3, if_neg h3]; rfl
        · simp (disch := omega) only [fn_X3_stripe, rr_t0 hR, b_in_in hs, li6, b_in_in hc, gob, if_neg e10, if_neg n4, if_neg n5]
          simp (disch := omega) only [li4, pk_mul, nI_add, g1, g2, b_wrong, gob]
          by_cases h3 : τ 3 (4 * s + c) = 0
          · rw [if_pos h3, if_pos h3]
            rcases nWr_01 τ (4 * s + c) with q | q <;> rw [q] <;> rfl
          · rw [if_neg h3, if_neg h3]
      · obtain ⟨m, h1, h2, h3, h5⟩ := hR.2.2.2.1 s hs
        refine ⟨nI m, σ, τ, ?_, ?_, hR⟩
        · simp (disch := omega) only [fn_X2_stripe, a_isStripe_in hR hs, a_isColumn_no (x := nI 4) (Or.inr (Int32.le_refl _)), gob, if_neg e10, if_true, fn_X1_movedColumn, g1, g2, h2, if_pos (show nI 4 = 4 from rfl)]
        · simp (disch := omega) only [fn_X3_stripe, rr_t0 hR, b_in_in hs, li6, b_in_in hc, gob, if_neg e10, if_pos (show nI 4 = 4 from rfl), b_movedOf (by omega) h1 h3]
      · refine ⟨nI (if nB τ s < 2 then 0 else 1), σ, τ, ?_, ?_, hR⟩
        · simp (disch := omega) only [fn_X2_stripe, a_isStripe_in hR hs, a_isColumn_no (x := nI 5) (Or.inr (nI_le (by omega) (by omega))), gob, if_neg e10, if_true, a_broken hR hs, if_pos (show nI 5 = 5 from rfl), if_neg (show ¬ nI 5 = 4 by decide)]
          by_cases h2 : nB τ s < 2
          · rw [if_pos h2]; rfl
          · rw [if_neg h2]; rfl
        · simp (disch := omega) only [fn_X3_stripe, rr_t0 hR, b_in_in hs, li6, b_in_in hc, gob, if_neg e10, if_pos (show nI 5 = 5 from rfl), if_neg (show ¬ nI 5 = 4 by decide), b_broken hT.2 hs]
          by_cases h2 : nB τ s < 2
          · rw [if_pos h2]; rfl
          · rw [if_neg h2]; rfl
/-! mend -/
theorem a_mend {T s c : Nat} {σ : gS} (hT : T ≤ 21) (hs : s < T) (hc : c < 4) : fn_X1_mend T (nI s) (nI c) σ = if nWr σ (4 * s + c) = 0 then some (0, σ) else some (1, gs_st σ 2 (upd (σ 2) (4 * s + c) (σ 1 (4 * s + c)))) := by
  simp (disch := omega) only [fn_X1_mend, a_isWrong hT hs hc, gob, a_place, g1, g2, glt]
  rcases nWr_01 σ (4 * s + c) with q | q <;> rw [q] <;> rfl
theorem mendLoop {T s : Nat} (hs : s < T) : ∀ (k c mA mB a : Nat) (σ τ : gS), c + k = 4 → k < mA → k < mB → RR T σ τ → ∃ (r : Nat) (σ1 τ1 : gS), fn_X1_mendAll_L4 T mA (nI s) (nI a) (nI c) σ = some (nI r, σ1) ∧ fn_X3_mend_L16 T mB (nI s) (nI a) (nI (4 * s + c)) τ = some (nI r, τ1) ∧ RR T σ1 τ1 ∧ r ≤ a + k ∧ ∀ k, k ≠ 2 → σ1 k = σ k ∧ τ1 k = τ k := by
  intro k
  induction k with
  | zero =>
    intro c mA mB a σ τ h1 h2 h3 hR
    have hT := rr_T hR
    obtain ⟨mA, rfl⟩ : ∃ n', mA = n' + 1 := ⟨mA - 1, by omega⟩
    obtain ⟨mB, rfl⟩ : ∃ n', mB = n' + 1 := ⟨mB - 1, by omega⟩
    refine ⟨a, σ, τ, ?_, ?_, hR, by omega, fun _ _ => ⟨rfl, rfl⟩⟩
    · rw [fn_X1_mendAll_L4]; simp (disch := omega) only [li4, c_le, if_pos]
    · rw [fn_X3_mend_L16]; simp (disch := omega) only [li4, pk_mul, nI_add, c_le, if_pos]
  | succ k ih =>
    intro c mA mB a σ τ h1 h2 h3 hR
    have hT := rr_T hR
    obtain ⟨mA, rfl⟩ : ∃ n', mA = n' + 1 := ⟨mA - 1, by omega⟩
    obtain ⟨mB, rfl⟩ : ∃ n', mB = n' + 1 := ⟨mB - 1, by omega⟩
    have hc : c < 4 := by omega
    have hi : 4 * s + c < 4 * T := by omega
    have hw := rr_w hR hi
    rcases nWr_01 τ (4 * s + c) with q | q
    · obtain ⟨r, σ1, τ1, e1, e2, hR1, hr, hk⟩ := ih (c + 1) mA mB a σ τ (by omega) (by omega) (by omega) hR
      refine ⟨r, σ1, τ1, ?_, ?_, hR1, by omega, hk⟩
      · rw [fn_X1_mendAll_L4]
        simp (disch := omega) only [a_mend hT.2 hs hc, rr_wr hR hi, q, if_true, gob, if_true]
        rw [li4, if_neg (nI_ge (by omega) (by omega)), li1, nI_add]; exact e1
      · rw [fn_X3_mend_L16]
        simp (disch := omega) only [b_wrong, q, gob]
        rw [li4, pk_mul, nI_add, if_neg (nI_ge (by omega) (by omega)), if_pos (show nI 0 = 0 from rfl), li1, nI_add]; exact e2
    · obtain ⟨r, σ1, τ1, e1, e2, hR1, hr, hk⟩ := ih (c + 1) mA mB (a + 1) _ _ (by omega) (by omega) (by omega) (rr_cell (i := 4 * s + c) (v := σ 1 (4 * s + c)) (w := τ 1 (4 * s + c)) hR hw.1)
      refine ⟨r, σ1, τ1, ?_, ?_, hR1, by omega, fun k h2 => ⟨(hk k h2).1.trans (st_n h2), (hk k h2).2.trans (st_n h2)⟩⟩
      · rw [fn_X1_mendAll_L4]
        simp (disch := omega) only [a_mend hT.2 hs hc, rr_wr hR hi, q, if_neg (show ¬ 1 = 0 by decide), gob, if_neg e10]
        rw [li4, if_neg (nI_ge (by omega) (by omega)), li1, nI_add, nI_add]; exact e1
      · rw [fn_X3_mend_L16]
        simp (disch := omega) only [b_wrong, q, gob, if_neg e10n, g1, g2, glt]
        rw [li4, pk_mul, nI_add, if_neg (nI_ge (by omega) (by omega)), li1, nI_add, nI_add]; exact e2
theorem mendBoth {T s : Nat} {σ τ : gS} (hR : RR T σ τ) (hs : s < T) (hb : nB τ s < 2) : ∃ (r : Nat) (σ1 τ1 : gS), fn_X1_mendAll T (nI s) σ = some (nI r, σ1) ∧ fn_X3_mend T (nI s) τ = some (nI r, τ1) ∧ RR T σ1 τ1 ∧ r ≤ 4 ∧ ∀ k, k ≠ 2 → σ1 k = σ k ∧ τ1 k = τ k := by
  have hT := rr_T hR
  obtain ⟨r, σ1, τ1, e1, e2, hR1, hr, hk⟩ := mendLoop hs 4 0 gs_fu gs_fu 0 σ τ rfl (by rw [fu_e]; omega) (by rw [fu_e]; omega) hR
  refine ⟨r, σ1, τ1, e1, ?_, hR1, by omega, hk⟩
  simp only [fn_X3_mend, b_broken hT.2 hs, if_pos hb, gob]
  rw [if_pos (show nI 0 = 0 from rfl), li4, pk_mul]; exact e2
theorem mendNone {T s : Nat} {τ : gS} (hT : T ≤ 21) (hs : s < T) (hb : ¬ nB τ s < 2) : fn_X3_mend T (nI s) τ = some (0, τ) := by
  simp only [fn_X3_mend, b_broken hT hs, if_neg hb, gob, if_neg e10n]
/-! scrub -/
theorem rr_next {T n : Nat} {σ τ : gS} {f g : Nat → Int32} (h : RR T σ τ) (hn : n < T) (hf : f 0 = nI n) (hg : g 0 = nI n) : RR T (gs_st σ 5 f) (gs_st τ 10 g) := by
  obtain ⟨⟨h1, h2, h3, _⟩, hW, hX, hM, hP, hF⟩ := h
  exact ⟨⟨h1, h2, h3, n, hn, hf, hg⟩, hW, hX, hM, hP, hF⟩
theorem a_isAmount_no {T : Nat} {x : Int32} {σ : gS} (h : x < 1 ∨ 21 < x) : fn_X2_isAmount T x σ = some (0, σ) := by
  unfold fn_X2_isAmount
  rcases h with h | h
  · rw [if_pos h]
  · by_cases h0 : x < 1
    · rw [if_pos h0]
    · rw [if_neg h0, if_pos h]
theorem a_isAmount_in {T j : Nat} {σ : gS} (h : 1 ≤ j) (h2 : j ≤ 21) : fn_X2_isAmount T (nI j) σ = some (1, σ) := by
  unfold fn_X2_isAmount
  rw [if_neg (by rw [li1, c_lt (by omega) (by omega)]; omega), if_neg (by rw [li21, c_lt (by omega) (by omega)]; omega)]
theorem amount (x : Int32) : (x < 1 ∨ 21 < x) ∨ ∃ j, 1 ≤ j ∧ j ≤ 21 ∧ x = nI j := by
  by_cases h1 : x < 1
  · exact Or.inl (Or.inl h1)
  · by_cases h2 : 21 < x
    · exact Or.inl (Or.inr h2)
    · right
      rcases ix x 22 (by omega) with ho | ⟨j, hj, rfl⟩
      · exfalso
        rw [Int32.lt_iff_toInt_lt] at h1 h2
        have e1 : (1 : Int32).toInt = 1 := by decide
        have e21 : (21 : Int32).toInt = 21 := by decide
        rw [e1] at h1
        rw [e21] at h2
        rcases ho with ho | ho
        · rw [Int32.lt_iff_toInt_lt] at ho
          have e0 : (0 : Int32).toInt = 0 := by decide
          rw [e0] at ho
          omega
        · rw [Int32.le_iff_toInt_le, nI_toInt (by omega)] at ho
          omega
      · refine ⟨j, ?_, by omega, rfl⟩
        rw [li1, c_lt (by omega) (by omega)] at h1
        omega
theorem scrubLoop {T : Nat} {m : Nat} (hm : m ≤ 21) : ∀ (k i mA mB a : Nat) (σ τ : gS), i + k = m → k < mA → k < mB → RR T σ τ → ∃ (r : Nat) (σ1 τ1 : gS), fn_X1_visit_L4 T mA (nI m) (nI a) (nI i) σ = some (nI r, σ1) ∧ fn_X3_scrub_L17 T mB (nI m) (nI a) (nI i) τ = some (nI r, τ1) ∧ RR T σ1 τ1 := by
  intro k
  induction k with
  | zero =>
    intro i mA mB a σ τ h1 h2 h3 hR
    obtain ⟨mA, rfl⟩ : ∃ n', mA = n' + 1 := ⟨mA - 1, by omega⟩
    obtain ⟨mB, rfl⟩ : ∃ n', mB = n' + 1 := ⟨mB - 1, by omega⟩
    refine ⟨a, σ, τ, ?_, ?_, hR⟩
    · rw [fn_X1_visit_L4]; simp (disch := omega) only [c_le, if_pos]
    · rw [fn_X3_scrub_L17]; simp (disch := omega) only [c_le, if_pos]
  | succ k ih =>
    intro i mA mB a σ τ h1 h2 h3 hR
    have hT := rr_T hR
    obtain ⟨mA, rfl⟩ : ∃ n', mA = n' + 1 := ⟨mA - 1, by omega⟩
    obtain ⟨mB, rfl⟩ : ∃ n', mB = n' + 1 := ⟨mB - 1, by omega⟩
    obtain ⟨n, hn, hσ, hτ⟩ := hR.1.2.2.2
    have hne : ¬ nI T = 0 := nI_ne0 (by omega) (by omega)
    have refstep : ∀ (r : Nat) (τ1 : gS), τ1 0 0 = nI T → τ1 10 0 = nI n → fn_X3_mend T (nI n) τ = some (nI r, τ1) → fn_X3_scrub_L17 T (mB + 1) (nI m) (nI a) (nI i) τ = fn_X3_scrub_L17 T mB (nI m) (nI (a + r)) (nI (i + 1)) (gs_st τ1 10 (fun _ => nI ((n + 1) % T))) := by
      intro r τ1 ht0 ht10 he
      rw [fn_X3_scrub_L17]
      simp (disch := omega) only [c_le, if_neg, hτ, he, gob, ht0, ht10, gs_dv, if_neg hne, glt, li1, nI_add, o_div, pk_mul]
      rw [o_sub (Nat.div_mul_le_self _ _), show n + 1 - (n + 1) / T * T = (n + 1) % T by rw [Nat.mul_comm]; exact (Nat.mod_eq_sub _ _).symm]
    have hmod : (n + 1) % T = if n + 1 < T then n + 1 else 0 := by
      by_cases hl : n + 1 < T
      · rw [if_pos hl]; exact Nat.mod_eq_of_lt hl
      · rw [if_neg hl, show n + 1 = T by omega]; exact Nat.mod_self T
    have hml : (n + 1) % T < T := Nat.mod_lt _ (by omega)
    by_cases hb : nB τ n < 2
    · obtain ⟨r, σ1, τ1, e1, e2, hR1, hr, hk⟩ := mendBoth hR hn hb
      have s5 : σ1 5 0 = nI n := by rw [(hk 5 (by omega)).1]; exact hσ
      have t10 : τ1 10 0 = nI n := by rw [(hk 10 (by omega)).2]; exact hτ
      obtain ⟨r2, σ2, τ2, f1, f2, hR2⟩ := ih (i + 1) mA mB (a + r) _ _ (by omega) (by omega) (by omega) (rr_next (n := (n + 1) % T) (f := fun _ => nI ((n + 1) % T)) (g := fun _ => nI ((n + 1) % T)) hR1 hml rfl rfl)
      refine ⟨r2, σ2, τ2, ?_, ?_, hR2⟩
      · rw [fn_X1_visit_L4]
        simp (disch := omega) only [c_le, if_neg, hσ, a_broken hR hn, if_pos hb, gob, e1, rr_s6 hR1, s5, li1, nI_add, glt]
        rw [if_pos (show nI 0 = 0 from rfl), ← f1, hmod]
        by_cases hl : n + 1 < T
        · rw [if_pos hl, if_neg (by omega)]
        · rw [if_neg hl, if_pos (by omega)]; rfl
      · rw [refstep r τ1 (rr_t0 hR1) t10 e2]; exact f2
    · obtain ⟨r2, σ2, τ2, f1, f2, hR2⟩ := ih (i + 1) mA mB a _ _ (by omega) (by omega) (by omega) (rr_next (n := (n + 1) % T) (f := fun _ => nI ((n + 1) % T)) (g := fun _ => nI ((n + 1) % T)) hR hml rfl rfl)
      refine ⟨r2, σ2, τ2, ?_, ?_, hR2⟩
      · rw [fn_X1_visit_L4]
        simp (disch := omega) only [c_le, if_neg, hσ, a_broken hR hn, if_neg hb, gob, if_neg e10n, rr_s6 hR, li1, nI_add, glt]
        rw [← f1, hmod]
        by_cases hl : n + 1 < T
        · rw [if_pos hl, if_neg (by omega)]
        · rw [if_neg hl, if_pos (by omega)]; rfl
      · rw [refstep 0 τ (rr_t0 hR) hτ (mendNone hT.2 hn hb), Nat.add_zero]; exact f2
theorem sim_scrub {T : Nat} (_ : T = 7 ∨ T = 14 ∨ T = 21) : sm1 (fn_X2_scrub T) (fn_X3_scrub T) (RR T) := by
  intro σ τ a hR
  rcases amount a with ho | ⟨j, h1, h2, rfl⟩
  · refine ⟨-1, σ, τ, ?_, ?_, hR⟩
    · simp only [fn_X2_scrub, a_isAmount_no ho, gob, if_true]
    · unfold fn_X3_scrub
      rcases ho with h | h
      · rw [if_pos h]
      · rw [if_neg (fun q => ?_), if_neg (fun q => ?_)]
        · rw [Int32.lt_iff_toInt_lt] at h
          rw [Int32.le_iff_toInt_le] at q
          omega
        · have e1 : (1 : Int32).toInt = 1 := by decide
          have e21 : (21 : Int32).toInt = 21 := by decide
          rw [Int32.lt_iff_toInt_lt] at h q
          rw [e1] at q
          rw [e21] at h
          omega
  · obtain ⟨r, σ1, τ1, e1, e2, hR1⟩ := scrubLoop h2 j 0 gs_fu gs_fu 0 σ τ (by omega) (by rw [fu_e]; omega) (by rw [fu_e]; omega) hR
    refine ⟨nI r, σ1, τ1, ?_, ?_, hR1⟩
    · simp only [fn_X2_scrub, a_isAmount_in h1 h2, gob, if_neg e10, fn_X1_visit]
      rw [show fn_X1_visit_L4 T gs_fu (nI j) 0 0 σ = some (nI r, σ1) from e1]; rfl
    · unfold fn_X3_scrub
      rw [if_neg (by rw [li1, c_lt (by omega) (by omega)]; omega), if_pos (by rw [li21, c_le (by omega) (by omega)]; omega)]
      exact e2
