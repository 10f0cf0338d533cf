/-! PURE ROWS: file, free runs, count (own work) -/
theorem b_length {T f E : Nat} {st sz : Nat → Nat} {σ τ : gS} (hR : RR T σ τ) (hf : f < 8) (hE : rE T σ τ f E st sz) : fn_X3_length T (nI f) τ = some (nI (sumN sz E), τ) := by
  obtain ⟨h3, h9, t9, hx, h8, h63, _⟩ := hE
  have key : ∀ (k e n : Nat), e + k = E → k < n → fn_X3_length_L4 T n (nI f) (nI (sumN sz e)) (nI e) τ = some (nI (sumN sz E), τ) := by
    intro k
    induction k with
    | zero =>
      intro e n h1 h2
      obtain ⟨n, rfl⟩ : ∃ n', n = n' + 1 := ⟨n - 1, by omega⟩
      rw [fn_X3_length_L4, g1 hf (by omega), g2 (by omega), t9, if_pos (nI_le (by omega) (by omega)), show e = E by omega]
    | succ k ih =>
      intro e n h1 h2
      obtain ⟨n, rfl⟩ : ∃ n', n = n' + 1 := ⟨n - 1, by omega⟩
      have he : e < E := by omega
      obtain ⟨x1, x2, x3, x4⟩ := hx e he
      have hj := rr_j hR (show 3 * f + e < 24 by omega)
      have y2 : τ 8 (3 * f + e) = nI (sz e) := by rw [← hj.2]; exact x2
      rw [fn_X3_length_L4, g1 hf (by omega), g2 (by omega), t9, if_neg (nI_ge he (by omega)), xj, g1 (by omega) (by omega), g2 (by omega), y2, nI_add, li1, nI_add]
      exact ih (e + 1) n (by omega) (by omega)
  exact key E 0 gs_fu (by omega) (by rw [fu_e]; omega)
theorem sim_file {T : Nat} (_ : T = 7 ∨ T = 14 ∨ T = 21) : sm2 (fn_X2_file T) (fn_X3_file T) (RR T) := by
  intro σ τ x y hR
  have hT := rr_T hR
  rcases ix x 8 (by omega) with ho | ⟨f, hf, rfl⟩
  · refine ⟨-1, σ, τ, ?_, ?_, hR⟩
    · unfold fn_X2_file; rw [a_isFile_no ho, gob, if_pos rfl]
    · unfold fn_X3_file; rw [li8, b_in_no ho, gob, if_pos rfl]
  · obtain ⟨E, st, sz, hE⟩ := rr_f hR hf
    rcases ix y 8 (by omega) with ho | ⟨w, hw, rfl⟩
    · refine ⟨-1, σ, τ, ?_, ?_, hR⟩
      · unfold fn_X2_file
        rw [a_isFile_in hf, gob, if_neg e10]
        rcases ho with h | h
        · rw [if_pos h]
        · by_cases h0 : y < 0
          · rw [if_pos h0]
          · rw [if_neg h0, if_neg (fun q => ?_)]
            rw [Int32.le_iff_toInt_le, nI_toInt (by omega)] at h
            rw [Int32.le_iff_toInt_le] at q
            have e7 : (7 : Int32).toInt = 7 := by decide
            rw [e7] at q
            omega
      · unfold fn_X3_file
        rw [li8, b_in_in hf (by omega), gob, if_neg e10, b_in_no ho, gob, if_pos rfl]
    · have hy0 : ¬ nI w < 0 := nI_pos (by omega)
      have hy7 : nI w ≤ 7 := nI_le (b := 7) (by omega) (by omega)
      have hex : fn_X0_extentsOf T (nI f) σ = some (nI E, σ) := by
        unfold fn_X0_extentsOf; rw [g1 hf (by omega), g2 (by omega), hE.2.1]
      unfold fn_X2_file fn_X3_file
      rw [a_isFile_in hf, li8, b_in_in hf (by omega)]
      simp only [gob]
      rw [if_neg e10, if_neg hy0, if_pos hy7, if_neg e10, b_in_in hw (by omega), gob, if_neg e10]
      by_cases h0 : w = 0
      · subst h0
        refine ⟨nI (sumN sz E), σ, τ, ?_, ?_, hR⟩
        · rw [if_pos (show nI 0 = 0 from rfl)]
          unfold fn_X0_lengthOf
          rw [g1 hf (by omega), g2 (by omega), hE.2.2.2.2.1, gob]
        · rw [if_pos (show nI 0 = 0 from rfl), b_length hR hf hE, gob]
      · have n0 : ¬ nI w = 0 := nI_ne (b := 0) h0 (by omega) (by omega)
        rw [if_neg n0, if_neg n0]
        by_cases h1 : w = 1
        · subst h1
          refine ⟨nI E, σ, τ, ?_, ?_, hR⟩
          · rw [if_pos (show nI 1 = 1 from rfl), hex, gob]
          · rw [if_pos (show nI 1 = 1 from rfl), g1 hf (by omega), g2 (by omega), hE.2.2.1]
        · have n1 : ¬ nI w = 1 := nI_ne (b := 1) h1 (by omega) (by omega)
          have hE3 := hE.1
          have ed : (nI w / 2 : Int32) = nI (w / 2) := by rw [li2, o_div (by omega) (by omega) (by omega)]
          have ee : (nI (w / 2) - 1 : Int32) = nI (w / 2 - 1) := by rw [li1, o_sub (by omega)]
          rw [if_neg n1, if_neg n1, hex, gob, ed, ee, g1 hf (by omega), g2 (by omega), hE.2.2.1, xj]
          by_cases hlt : w / 2 - 1 < E
          · have hj := rr_j hR (show 3 * f + (w / 2 - 1) < 24 by omega)
            rw [if_pos (nI_lt hlt (by omega)), if_pos (nI_lt hlt (by omega)), a_exStart hf (by omega), a_exSize hf (by omega), g1 (by omega) (by omega), g1 (by omega) (by omega), g2 (by omega)]
            simp only [gob]
            by_cases hq : (nI w - nI (w / 2) * 2 : Int32) = 0
            · refine ⟨τ 7 (3 * f + (w / 2 - 1)), σ, τ, ?_, ?_, hR⟩
              · rw [if_pos hq, hj.1]
              · rw [if_pos hq]
            · refine ⟨τ 8 (3 * f + (w / 2 - 1)), σ, τ, ?_, ?_, hR⟩
              · rw [if_neg hq, hj.2]
              · rw [if_neg hq]
          · refine ⟨-1, σ, τ, ?_, ?_, hR⟩
            · rw [if_neg (nI_nlt (by omega) (by omega))]
            · rw [if_neg (nI_nlt (by omega) (by omega))]
/-! free runs -/
def rlk (τ : gS) : Nat → Nat → Nat
  | 0, _ => 0
  | k + 1, b => if τ 6 b = 0 then rlk τ k (b + 1) + 1 else 0
theorem rlk_le (τ : gS) : ∀ (k b : Nat), rlk τ k b ≤ k := by
  intro k
  induction k with
  | zero => intro b; exact Nat.le_refl 0
  | succ k ih =>
    intro b
    show (if τ 6 b = 0 then rlk τ k (b + 1) + 1 else 0) ≤ k + 1
    have := ih (b + 1)
    split <;> omega
theorem rlk_free (τ : gS) : ∀ (k b j : Nat), b ≤ j → j < b + rlk τ k b → τ 6 j = 0 := by
  intro k
  induction k with
  | zero => intro b j h1 h2; have : rlk τ 0 b = 0 := rfl; omega
  | succ k ih =>
    intro b j h1 h2
    have e : rlk τ (k + 1) b = if τ 6 b = 0 then rlk τ k (b + 1) + 1 else 0 := rfl
    by_cases h : τ 6 b = 0
    · rw [if_pos h] at e
      by_cases hjb : j = b
      · rw [hjb]; exact h
      · exact ih (b + 1) j (by omega) (by omega)
    · rw [if_neg h] at e; omega
/-- does a free run start here; its length -/
def sR (τ : gS) (b : Nat) : Prop := τ 6 b = 0 ∧ (b = 0 ∨ ¬ τ 6 (b - 1) = 0)
theorem rr_b {T b : Nat} {σ τ : gS} (h : RR T σ τ) (hb : b < 3 * T) : (σ 7 b = 0 ∧ τ 6 b = 0) ∨ (σ 7 b = 1 ∧ ¬ τ 6 b = 0) := by
  rcases h.2.2.2.2.2.1 b hb with h | ⟨h1, f, hf, h2⟩
  · exact Or.inl h
  · exact Or.inr ⟨h1, by rw [h2]; exact nI_ne0 (by omega) (by omega)⟩
theorem rr_b0 {T b : Nat} {σ τ : gS} (h : RR T σ τ) (hb : b < 3 * T) : (σ 7 b = 0) = (τ 6 b = 0) := by
  rcases rr_b h hb with ⟨h1, h2⟩ | ⟨h1, h2⟩
  · rw [h1, h2]
  · exact propext ⟨fun q => by rw [h1] at q; exact absurd q e10, fun q => absurd q h2⟩
theorem a_startsRun {T b : Nat} {σ τ : gS} (hR : RR T σ τ) (hb : b < 3 * T) : (sR τ b → fn_X0_startsRun T (nI b) σ = some (1, σ)) ∧ (¬ sR τ b → fn_X0_startsRun T (nI b) σ = some (0, σ)) := by
  have hT := rr_T hR
  unfold fn_X0_startsRun sR
  rw [g1 hb (by omega), g2 (by omega)]
  rcases rr_b hR hb with ⟨h1, h2⟩ | ⟨h1, h2⟩
  · rw [h1, if_pos rfl]
    by_cases hb0 : b = 0
    · subst hb0
      rw [if_pos (show nI 0 = 0 from rfl)]
      exact ⟨fun _ => rfl, fun q => absurd ⟨h2, Or.inl rfl⟩ q⟩
    · rw [if_neg (show ¬ nI b = 0 from nI_ne (b := 0) hb0 (by omega) (by omega)), li1, o_sub (by omega), g1 (by omega) (by omega), g2 (by omega)]
      rcases rr_b hR (show b - 1 < 3 * T by omega) with ⟨k1, k2⟩ | ⟨k1, k2⟩
      · rw [k1, if_pos rfl]
        refine ⟨fun q => ?_, fun _ => rfl⟩
        rcases q.2 with q | q
        · exact absurd q hb0
        · exact absurd k2 q
      · rw [k1, if_neg e10]
        exact ⟨fun _ => rfl, fun q => absurd ⟨h2, Or.inr k2⟩ q⟩
  · rw [h1, if_neg e10]
    exact ⟨fun q => absurd q.1 h2, fun _ => rfl⟩
theorem a_runFrom {T b : Nat} {σ τ : gS} (hR : RR T σ τ) (hb : b ≤ 3 * T) : fn_X0_runFrom T (nI b) σ = some (nI (rlk τ (3 * T - b) b), σ) := by
  have hT := rr_T hR
  have key : ∀ (k e n : Nat), e + k = 3 * T → k < n → b ≤ e → fn_X0_runFrom_L2 T n (nI b) (nI e) σ = some (nI (e - b + rlk τ k e), σ) := by
    intro k
    induction k with
    | zero =>
      intro e n h1 h2 h3
      obtain ⟨n, rfl⟩ : ∃ n', n = n' + 1 := ⟨n - 1, by omega⟩
      rw [fn_X0_runFrom_L2, if_pos (nI_le (by omega) (by omega)), o_sub h3]; rfl
    | succ k ih =>
      intro e n h1 h2 h3
      obtain ⟨n, rfl⟩ : ∃ n', n = n' + 1 := ⟨n - 1, by omega⟩
      have er : rlk τ (k + 1) e = if τ 6 e = 0 then rlk τ k (e + 1) + 1 else 0 := rfl
      rw [fn_X0_runFrom_L2, if_neg (nI_ge (by omega) (by omega)), g1 (by omega) (by omega), g2 (by omega)]
      rcases rr_b hR (show e < 3 * T by omega) with ⟨k1, k2⟩ | ⟨k1, k2⟩
      · rw [k1, if_pos rfl, er, if_pos k2, li1, nI_add, ih (e + 1) n (by omega) (by omega) (by omega), show e + 1 - b + rlk τ k (e + 1) = e - b + (rlk τ k (e + 1) + 1) by omega]
      · rw [k1, if_neg e10, er, if_neg k2, o_sub h3]; rfl
  have h := key (3 * T - b) b gs_fu (by omega) (by rw [fu_e]; omega) (Nat.le_refl _)
  rw [show b - b + rlk τ (3 * T - b) b = rlk τ (3 * T - b) b by omega] at h
  exact h
/-- the run that starts at b, 0 if none does -/
noncomputable def rn (τ : gS) (T b : Nat) : Nat := @ite Nat (sR τ b) (Classical.propDecidable _) (rlk τ (3 * T - b) b) 0
theorem rn_y {τ : gS} {T b : Nat} (h : sR τ b) : rn τ T b = rlk τ (3 * T - b) b := by unfold rn; rw [if_pos h]
theorem rn_n {τ : gS} {T b : Nat} (h : ¬ sR τ b) : rn τ T b = 0 := by unfold rn; rw [if_neg h]
theorem rn_pos {τ : gS} {T b : Nat} (hb : b < 3 * T) (h : sR τ b) : 1 ≤ rn τ T b := by
  rw [rn_y h, show 3 * T - b = (3 * T - b - 1) + 1 by omega]
  show 1 ≤ if τ 6 b = 0 then rlk τ (3 * T - b - 1) (b + 1) + 1 else 0
  rw [if_pos h.1]; omega
theorem rn_s {τ : gS} {T b : Nat} (h : rn τ T b ≠ 0) : sR τ b := by
  apply Classical.byContradiction
  intro q
  exact h (rn_n q)
theorem rn_le (τ : gS) (T b : Nat) : rn τ T b ≤ 3 * T - b := by
  apply Classical.byContradiction
  intro q
  have hs : sR τ b := rn_s (T := T) (by omega)
  rw [rn_y hs] at q
  exact q (rlk_le τ _ _)
theorem b_run {T b : Nat} {τ : gS} (hT : T ≤ 21) (h0 : τ 0 0 = nI T) (hb : b < 3 * T) : fn_X3_run T (nI b) τ = some (nI (rn τ T b), τ) := by
  have key : ∀ (k e n : Nat), b + e + k = 3 * T → k < n → fn_X3_run_L28 T n (nI b) (nI e) τ = some (nI (e + rlk τ k (b + e)), τ) := by
    intro k
    induction k with
    | zero =>
      intro e n h1 h2
      obtain ⟨n, rfl⟩ : ∃ n', n = n' + 1 := ⟨n - 1, by omega⟩
      rw [fn_X3_run_L28, h0, li3, pk_mul, nI_add, if_pos (nI_le (by omega) (by omega))]; rfl
    | succ k ih =>
      intro e n h1 h2
      obtain ⟨n, rfl⟩ : ∃ n', n = n' + 1 := ⟨n - 1, by omega⟩
      have er : rlk τ (k + 1) (b + e) = if τ 6 (b + e) = 0 then rlk τ k (b + e + 1) + 1 else 0 := rfl
      rw [fn_X3_run_L28, h0, li3, pk_mul, nI_add, if_neg (nI_ge (by omega) (by omega)), g1 (by omega) (by omega), g2 (by omega)]
      by_cases k2 : τ 6 (b + e) = 0
      · rw [if_pos k2, er, if_pos k2, li1, nI_add, ih (e + 1) n (by omega) (by omega), show b + (e + 1) = b + e + 1 by omega, show e + 1 + rlk τ k (b + e + 1) = e + (rlk τ k (b + e + 1) + 1) by omega]
      · rw [if_neg k2, er, if_neg k2]; rfl
  have hk := key (3 * T - b) 0 gs_fu (by omega) (by rw [fu_e]; omega)
  rw [Nat.zero_add, Nat.add_zero] at hk
  have hk : fn_X3_run_L28 T gs_fu (nI b) 0 τ = some (nI (rlk τ (3 * T - b) b), τ) := hk
  unfold fn_X3_run
  rw [g1 (by omega) (by omega), g2 (by omega)]
  by_cases h6 : τ 6 b = 0
  · rw [if_pos h6]
    by_cases hb0 : b = 0
    · rw [if_pos (by rw [hb0]; exact Int32.le_refl _), hk, rn_y ⟨h6, Or.inl hb0⟩]
    · rw [if_neg (show ¬ nI b ≤ 0 from nI_ge (a := 0) (by omega) (by omega)), li1, o_sub (by omega), g1 (by omega) (by omega), g2 (by omega)]
      by_cases h7 : τ 6 (b - 1) = 0
      · rw [if_pos h7, rn_n (fun q => by rcases q.2 with q | q; exact hb0 q; exact q h7)]; rfl
      · rw [if_neg h7, hk, rn_y ⟨h6, Or.inr h7⟩]
  · rw [if_neg h6, rn_n (fun q => h6 q.1)]; rfl
/-- what startsRun and runFrom say together -/
theorem a_run {T b : Nat} {σ τ : gS} (hR : RR T σ τ) (hb : b < 3 * T) : (rn τ T b = 0 ∧ fn_X0_startsRun T (nI b) σ = some (0, σ)) ∨ (1 ≤ rn τ T b ∧ fn_X0_startsRun T (nI b) σ = some (1, σ) ∧ fn_X0_runFrom T (nI b) σ = some (nI (rn τ T b), σ)) := by
  by_cases h : sR τ b
  · right
    refine ⟨rn_pos hb h, (a_startsRun hR hb).1 h, ?_⟩
    rw [rn_y h]; exact a_runFrom hR (by omega)
  · left
    exact ⟨rn_n h, (a_startsRun hR hb).2 h⟩
/-- the longest run: the first of the longest -/
theorem longBoth {T : Nat} {σ τ : gS} (hR : RR T σ τ) : ∃ m, m < 3 * T ∧ fn_X3_longest T τ = some (nI m, τ) ∧ fn_X0_longestRun T σ = some (if rn τ T m = 0 then -1 else nI m, σ) := by
  have hT := rr_T hR
  have key : ∀ (k b mA mB m : Nat), b + k = 3 * T → k < mA → k < mB → m < 3 * T → ∃ m', m' < 3 * T ∧ fn_X3_longest_L4 T mB (nI m) (nI b) τ = some (nI m', τ) ∧ fn_X0_longestRun_L6 T mA (if rn τ T m = 0 then -1 else nI m) (nI (rn τ T m)) (nI b) σ = some (if rn τ T m' = 0 then -1 else nI m', σ) := by
    intro k
    induction k with
    | zero =>
      intro b mA mB m h1 h2 h3 h4
      obtain ⟨mA, rfl⟩ : ∃ n', mA = n' + 1 := ⟨mA - 1, by omega⟩
      obtain ⟨mB, rfl⟩ : ∃ n', mB = n' + 1 := ⟨mB - 1, by omega⟩
      refine ⟨m, h4, ?_, ?_⟩
      · rw [fn_X3_longest_L4, rr_t0 hR, li3, pk_mul, if_pos (nI_le (by omega) (by omega))]
      · rw [fn_X0_longestRun_L6, if_pos (nI_le (by omega) (by omega))]
    | succ k ih =>
      intro b mA mB m h1 h2 h3 h4
      obtain ⟨mA, rfl⟩ : ∃ n', mA = n' + 1 := ⟨mA - 1, by omega⟩
      obtain ⟨mB, rfl⟩ : ∃ n', mB = n' + 1 := ⟨mB - 1, by omega⟩
      have hb : b < 3 * T := by omega
      have l1 := rn_le τ T b
      have l2 := rn_le τ T m
      have eB : fn_X3_longest_L4 T (mB + 1) (nI m) (nI b) τ = if rn τ T b ≤ rn τ T m then fn_X3_longest_L4 T mB (nI m) (nI (b + 1)) τ else fn_X3_longest_L4 T mB (nI b) (nI (b + 1)) τ := by
        rw [fn_X3_longest_L4, rr_t0 hR, li3, pk_mul, if_neg (nI_ge (by omega) (by omega)), b_run hT.2 (rr_t0 hR) hb, gob, b_run hT.2 (rr_t0 hR) h4, gob, li1, nI_add]
        by_cases q : rn τ T b ≤ rn τ T m
        · rw [if_pos q, if_pos (nI_le q (by omega))]
        · rw [if_neg q, if_neg (nI_ge (by omega) (by omega))]
      by_cases q : rn τ T b ≤ rn τ T m
      · obtain ⟨m', hm', f1, f2⟩ := ih (b + 1) mA mB m (by omega) (by omega) (by omega) h4
        refine ⟨m', hm', ?_, ?_⟩
        · rw [eB, if_pos q]; exact f1
        · rw [fn_X0_longestRun_L6, if_neg (nI_ge (by omega) (by omega))]
          rcases a_run hR hb with ⟨r0, s0⟩ | ⟨r1, s1, s2⟩
          · rw [s0, gob, if_pos rfl, li1, nI_add]; exact f2
          · rw [s1, gob, if_neg e10, s2, gob, if_pos (nI_le q (by omega)), li1, nI_add]; exact f2
      · obtain ⟨m', hm', f1, f2⟩ := ih (b + 1) mA mB b (by omega) (by omega) (by omega) hb
        refine ⟨m', hm', ?_, ?_⟩
        · rw [eB, if_neg q]; exact f1
        · rw [fn_X0_longestRun_L6, if_neg (nI_ge (by omega) (by omega))]
          rcases a_run hR hb with ⟨r0, s0⟩ | ⟨r1, s1, s2⟩
          · omega
          · rw [s1, gob, if_neg e10, s2, gob, if_neg (nI_ge (by omega) (by omega)), s2, gob, li1, nI_add]
            rw [if_neg (show ¬ rn τ T b = 0 by omega)] at f2
            exact f2
  have h00 : 0 < 3 * T := by omega
  by_cases r0 : rn τ T 0 = 0
  · obtain ⟨m, hm, f1, f2⟩ := key (3 * T) 0 gs_fu gs_fu 0 (by omega) (by rw [fu_e]; omega) (by rw [fu_e]; omega) h00
    rw [r0, if_pos rfl] at f2
    exact ⟨m, hm, f1, f2⟩
  · obtain ⟨m, hm, f1, f2⟩ := key (3 * T - 1) 1 199 199 0 (by omega) (by omega) (by omega) h00
    refine ⟨m, hm, ?_, ?_⟩
    · have l1 := rn_le τ T 0
      show fn_X3_longest_L4 T (199 + 1) (nI 0) (nI 0) τ = _
      rw [fn_X3_longest_L4, rr_t0 hR, li3, pk_mul, if_neg (nI_ge (by omega) (by omega)), b_run hT.2 (rr_t0 hR) h00, gob, b_run hT.2 (rr_t0 hR) h00, gob, li1, nI_add, if_pos (Int32.le_refl _)]
      exact f1
    · have l1 := rn_le τ T 0
      rcases a_run hR h00 with ⟨r1, s0⟩ | ⟨r1, s1, s2⟩
      · exact absurd r1 r0
      · show fn_X0_longestRun_L6 T (199 + 1) (-1) (nI 0) (nI 0) σ = _
        rw [fn_X0_longestRun_L6, if_neg (nI_ge (by omega) (by omega)), s1, gob, if_neg e10, s2, gob, if_neg (nI_ge (by omega) (by omega)), s2, gob, li1, nI_add]
        rw [if_neg r0] at f2
        exact f2

/-! count -/
theorem a_freeBlocks {T : Nat} {σ τ : gS} (hR : RR T σ τ) : fn_X0_freeBlocks T σ = some (nI (cS (fun b => if τ 6 b = 0 then 1 else 0) 0 (3 * T)), σ) := by
  have hT := rr_T hR
  have h := lp_cnt (fun n i a => fn_X0_freeBlocks_L4 T n (nI a) (nI i) σ) (fun a => some (nI a, σ)) (fun b => if τ 6 b = 0 then 1 else 0) (3 * T) (fun n i a hi => ?_) (fun n a => ?_) (3 * T) gs_fu 0 0 (by omega) (by rw [fu_e]; omega)
  · rw [Nat.zero_add] at h; exact h
  · show fn_X0_freeBlocks_L4 T (n + 1) (nI a) (nI i) σ = fn_X0_freeBlocks_L4 T n (nI (a + if τ 6 i = 0 then 1 else 0)) (nI (i + 1)) σ
    rw [fn_X0_freeBlocks_L4, if_neg (nI_ge (by omega) (by omega)), g1 hi (by omega), g2 (by omega)]
    rcases rr_b hR hi with ⟨h1, h2⟩ | ⟨h1, h2⟩
    · rw [h1, if_pos rfl, if_pos h2, li1, nI_add, nI_add]
    · rw [h1, if_neg e10, if_neg h2, li1, nI_add]; rfl
  · show fn_X0_freeBlocks_L4 T (n + 1) (nI a) (nI (3 * T)) σ = _
    rw [fn_X0_freeBlocks_L4, if_pos (Int32.le_refl _)]
theorem b_free {T : Nat} {τ : gS} (hT : T ≤ 21) (h0 : τ 0 0 = nI T) : fn_X3_free T τ = some (nI (cS (fun b => if τ 6 b = 0 then 1 else 0) 0 (3 * T)), τ) := by
  have h := lp_cnt (fun n i a => fn_X3_free_L4 T n (nI a) (nI i) τ) (fun a => some (nI a, τ)) (fun b => if τ 6 b = 0 then 1 else 0) (3 * T) (fun n i a hi => ?_) (fun n a => ?_) (3 * T) gs_fu 0 0 (by omega) (by rw [fu_e]; omega)
  · rw [Nat.zero_add] at h; exact h
  · show fn_X3_free_L4 T (n + 1) (nI a) (nI i) τ = fn_X3_free_L4 T n (nI (a + if τ 6 i = 0 then 1 else 0)) (nI (i + 1)) τ
    rw [fn_X3_free_L4, h0, li3, pk_mul, if_neg (nI_ge (by omega) (by omega)), g1 (by omega) (by omega), g2 (by omega)]
    by_cases h2 : τ 6 i = 0
    · rw [if_pos h2, if_pos h2, li1, nI_add, nI_add]
    · rw [if_neg h2, if_neg h2, li1, nI_add]; rfl
  · show fn_X3_free_L4 T (n + 1) (nI a) (nI (3 * T)) τ = _
    rw [fn_X3_free_L4, h0, li3, pk_mul, if_pos (Int32.le_refl _)]
theorem a_lostColumns {T : Nat} {σ τ : gS} (hR : RR T σ τ) : fn_X1_lostColumns T σ = some (nI (cS (fun i => if τ 3 i = 0 then 0 else 1) 0 (4 * T)), σ) := by
  have hT := rr_T hR
  have h := lp_cnt (fun n i a => fn_X1_lostColumns_L4 T n (nI a) (nI i) σ) (fun a => some (nI a, σ)) (fun i => if τ 3 i = 0 then 0 else 1) (4 * T) (fun n i a hi => ?_) (fun n a => ?_) (4 * T) gs_fu 0 0 (by omega) (by rw [fu_e]; omega)
  · rw [Nat.zero_add] at h; exact h
  · show fn_X1_lostColumns_L4 T (n + 1) (nI a) (nI i) σ = fn_X1_lostColumns_L4 T n (nI (a + if τ 3 i = 0 then 0 else 1)) (nI (i + 1)) σ
    rw [fn_X1_lostColumns_L4, if_neg (nI_ge (by omega) (by omega)), g1 hi (by omega), g2 (by omega), (rr_w hR hi).2.2]
    by_cases h2 : τ 3 i = 0
    · rw [if_pos h2, if_pos h2, li1, nI_add]; rfl
    · rw [if_neg h2, if_neg h2, li1, nI_add, nI_add]
  · show fn_X1_lostColumns_L4 T (n + 1) (nI a) (nI (4 * T)) σ = _
    rw [fn_X1_lostColumns_L4, if_pos (Int32.le_refl _)]
theorem b_columns {T z : Nat} {τ : gS} (hT : T ≤ 21) (h0 : τ 0 0 = nI T) (hz : z = 0 ∨ z = 1) (p : Nat → Nat) (hp : ∀ i, p i = if z = 0 then nWr τ i else if τ 3 i = 0 then 0 else 1) : fn_X3_columns T (nI z) τ = some (nI (cS p 0 (4 * T)), τ) := by
  have h := lp_cnt (fun n i a => fn_X3_columns_L4 T n (nI z) (nI a) (nI i) τ) (fun a => some (nI a, τ)) p (4 * T) (fun n i a hi => ?_) (fun n a => ?_) (4 * T) gs_fu 0 0 (by omega) (by rw [fu_e]; omega)
  · rw [Nat.zero_add] at h; exact h
  · show fn_X3_columns_L4 T (n + 1) (nI z) (nI a) (nI i) τ = fn_X3_columns_L4 T n (nI z) (nI (a + p i)) (nI (i + 1)) τ
    rw [fn_X3_columns_L4, h0, li4, pk_mul, if_neg (nI_ge (by omega) (by omega)), b_wrong (by omega), gob, g1 (by omega) (by omega), g2 (by omega), hp i]
    rcases hz with rfl | rfl
    · rw [if_pos (show nI 0 = 0 from rfl), if_pos rfl]
      rcases nWr_01 τ i with q | q <;> rw [q]
      · rw [if_pos (show nI 0 = 0 from rfl), li1, nI_add]; rfl
      · rw [if_neg e10n, li1, nI_add, nI_add]
    · rw [if_neg e10n, if_neg (show ¬ (1 : Nat) = 0 by decide)]
      by_cases h2 : τ 3 i = 0
      · rw [if_pos h2, if_pos h2, li1, nI_add]; rfl
      · rw [if_neg h2, if_neg h2, li1, nI_add, nI_add]
  · show fn_X3_columns_L4 T (n + 1) (nI z) (nI a) (nI (4 * T)) τ = _
    rw [fn_X3_columns_L4, h0, li4, pk_mul, if_pos (Int32.le_refl _)]
theorem a_wrongIn {T s : Nat} {σ τ : gS} (hR : RR T σ τ) (hs : s < T) (K : Int32 → Int32 → gS → Option (Int32 × gS)) (a : Nat) : fn_X1_wrongColumns_L14 T K gs_fu (nI a) (nI s) (nI 0) σ = K (nI (a + cS (nWr τ) (4 * s) 4)) (nI (s + 1)) σ := by
  have hT := rr_T hR
  have h := lp_cnt (fun n i a => fn_X1_wrongColumns_L14 T K n (nI a) (nI s) (nI i) σ) (fun a => K (nI a) (nI (s + 1)) σ) (fun c => nWr τ (4 * s + c)) 4 (fun n i a hi => ?_) (fun n a => ?_) 4 gs_fu 0 a rfl (by rw [fu_e]; omega)
  · rw [cS_shift, Nat.add_zero] at h; exact h
  · show fn_X1_wrongColumns_L14 T K (n + 1) (nI a) (nI s) (nI i) σ = fn_X1_wrongColumns_L14 T K n (nI (a + nWr τ (4 * s + i))) (nI s) (nI (i + 1)) σ
    rw [fn_X1_wrongColumns_L14, li4, if_neg (nI_ge (by omega) (by omega)), a_isWrong hT.2 hs hi, gob, rr_wr hR (show 4 * s + i < 4 * T by omega)]
    rcases nWr_01 τ (4 * s + i) with q | q <;> rw [q]
    · rw [if_pos (show nI 0 = 0 from rfl), li1, nI_add]; rfl
    · rw [if_neg e10n, li1, nI_add, nI_add]
  · show fn_X1_wrongColumns_L14 T K (n + 1) (nI a) (nI s) (nI 4) σ = _
    rw [fn_X1_wrongColumns_L14, if_pos (show (4 : Int32) ≤ nI 4 by decide), li1, nI_add]
theorem a_wrongColumns {T : Nat} {σ τ : gS} (hR : RR T σ τ) : fn_X1_wrongColumns T σ = some (nI (cS (nWr τ) 0 (4 * T)), σ) := by
  have hT := rr_T hR
  have key : ∀ (k s n a : Nat), s + k = T → k < n → fn_X1_wrongColumns_L4 T n (nI a) (nI s) σ = some (nI (a + cS (nWr τ) (4 * s) (4 * k)), σ) := by
    intro k
    induction k with
    | zero =>
      intro s n a h1 h2
      obtain ⟨n, rfl⟩ : ∃ n', n = n' + 1 := ⟨n - 1, by omega⟩
      rw [fn_X1_wrongColumns_L4, rr_s6 hR, if_pos (nI_le (by omega) (by omega))]; rfl
    | succ k ih =>
      intro s n a h1 h2
      obtain ⟨n, rfl⟩ : ∃ n', n = n' + 1 := ⟨n - 1, by omega⟩
      rw [fn_X1_wrongColumns_L4, rr_s6 hR, if_neg (nI_ge (by omega) (by omega)), li0, a_wrongIn hR (by omega), ih (s + 1) n _ (by omega) (by omega), show 4 * (k + 1) = 4 + 4 * k by omega, cS_app, show 4 * (s + 1) = 4 * s + 4 by omega, Nat.add_assoc]
  have h := key T 0 gs_fu 0 (by omega) (by rw [fu_e]; omega)
  rw [Nat.zero_add] at h
  exact h
theorem a_brokenStripes {T : Nat} {σ τ : gS} (hR : RR T σ τ) : fn_X1_brokenStripes T σ = some (nI (cS (fun s => if nB τ s < 2 then 0 else 1) 0 T), σ) := by
  have hT := rr_T hR
  have h := lp_cnt (fun n i a => fn_X1_brokenStripes_L4 T n (nI a) (nI i) σ) (fun a => some (nI a, σ)) (fun s => if nB τ s < 2 then 0 else 1) T (fun n i a hi => ?_) (fun n a => ?_) T gs_fu 0 0 (by omega) (by rw [fu_e]; omega)
  · rw [Nat.zero_add] at h; exact h
  · show fn_X1_brokenStripes_L4 T (n + 1) (nI a) (nI i) σ = fn_X1_brokenStripes_L4 T n (nI (a + if nB τ i < 2 then 0 else 1)) (nI (i + 1)) σ
    rw [fn_X1_brokenStripes_L4, rr_s6 hR, if_neg (nI_ge (by omega) (by omega)), a_broken hR hi, gob]
    by_cases h2 : nB τ i < 2
    · rw [if_pos h2, if_pos (show nI 0 = 0 from rfl), li1, nI_add]; rfl
    · rw [if_neg h2, if_neg e10n, li1, nI_add, nI_add]
  · show fn_X1_brokenStripes_L4 T (n + 1) (nI a) (nI T) σ = _
    rw [fn_X1_brokenStripes_L4, rr_s6 hR, if_pos (Int32.le_refl _)]
noncomputable def nR (τ : gS) (T b : Nat) : Nat := if rn τ T b = 0 then 0 else 1
theorem a_freeRuns {T : Nat} {σ τ : gS} (hR : RR T σ τ) : fn_X0_freeRuns T σ = some (nI (cS (nR τ T) 0 (3 * T)), σ) := by
  have hT := rr_T hR
  have h := lp_cnt (fun n i a => fn_X0_freeRuns_L4 T n (nI a) (nI i) σ) (fun a => some (nI a, σ)) (nR τ T) (3 * T) (fun n i a hi => ?_) (fun n a => ?_) (3 * T) gs_fu 0 0 (by omega) (by rw [fu_e]; omega)
  · rw [Nat.zero_add] at h; exact h
  · show fn_X0_freeRuns_L4 T (n + 1) (nI a) (nI i) σ = fn_X0_freeRuns_L4 T n (nI (a + nR τ T i)) (nI (i + 1)) σ
    rw [fn_X0_freeRuns_L4, if_neg (nI_ge (by omega) (by omega))]
    unfold nR
    rcases a_run hR hi with ⟨r0, s0⟩ | ⟨r1, s1, s2⟩
    · rw [s0, gob, if_pos rfl, if_pos r0, li1, nI_add]; rfl
    · rw [s1, gob, if_neg e10, if_neg (show ¬ rn τ T i = 0 by omega), li1, nI_add, nI_add]
  · show fn_X0_freeRuns_L4 T (n + 1) (nI a) (nI (3 * T)) σ = _
    rw [fn_X0_freeRuns_L4, if_pos (Int32.le_refl _)]
theorem b_count2 {T z : Nat} {τ : gS} (hT : T ≤ 21) (h0 : τ 0 0 = nI T) (hz : z = 4 ∨ z = 6) (a : Nat) : fn_X3_count_L104 T gs_fu (nI z) (nI a) 0 τ = some (nI (a + cS (fun b => if z = 6 then nR τ T b else 0) 0 (3 * T)), τ) := by
  have h := lp_cnt (fun n i a => fn_X3_count_L104 T n (nI z) (nI a) (nI i) τ) (fun a => some (nI a, τ)) (fun b => if z = 6 then nR τ T b else 0) (3 * T) (fun n i a hi => ?_) (fun n a => ?_) (3 * T) gs_fu 0 a (by omega) (by rw [fu_e]; omega)
  · exact h
  · show fn_X3_count_L104 T (n + 1) (nI z) (nI a) (nI i) τ = fn_X3_count_L104 T n (nI z) (nI (a + if z = 6 then nR τ T i else 0)) (nI (i + 1)) τ
    have l := rn_le τ T i
    rw [fn_X3_count_L104, h0, li3, pk_mul, if_neg (nI_ge (by omega) (by omega)), b_run hT h0 hi, gob]
    rcases hz with rfl | rfl
    · rw [if_neg (show ¬ nI 4 = 6 by decide), if_neg (show ¬ (4 : Nat) = 6 by decide), li1, nI_add]; rfl
    · rw [if_pos (show nI 6 = 6 from rfl), if_pos rfl]
      unfold nR
      by_cases r0 : rn τ T i = 0
      · rw [r0, if_pos rfl, if_pos (show nI 0 ≤ 0 from Int32.le_refl _), li1, nI_add]; rfl
      · rw [if_neg r0, if_neg (show ¬ nI (rn τ T i) ≤ 0 from nI_ge (a := 0) (by omega) (by omega)), li1, nI_add, nI_add]
  · show fn_X3_count_L104 T (n + 1) (nI z) (nI a) (nI (3 * T)) τ = _
    rw [fn_X3_count_L104, h0, li3, pk_mul, if_pos (Int32.le_refl _)]
theorem b_count1 {T z : Nat} {τ : gS} (hT : T ≤ 21) (h0 : τ 0 0 = nI T) (hz : z = 4 ∨ z = 6) : fn_X3_count_L72 T gs_fu (nI z) 0 0 τ = some (nI (cS (fun s => if z = 4 then (if nB τ s < 2 then 0 else 1) else 0) 0 T + cS (fun b => if z = 6 then nR τ T b else 0) 0 (3 * T)), τ) := by
  have h := lp_cnt (fun n i a => fn_X3_count_L72 T n (nI z) (nI a) (nI i) τ) (fun a => some (nI (a + cS (fun b => if z = 6 then nR τ T b else 0) 0 (3 * T)), τ)) (fun s => if z = 4 then (if nB τ s < 2 then 0 else 1) else 0) T (fun n i a hi => ?_) (fun n a => ?_) T gs_fu 0 0 (by omega) (by rw [fu_e]; omega)
  · rw [Nat.zero_add] at h; exact h
  · show fn_X3_count_L72 T (n + 1) (nI z) (nI a) (nI i) τ = fn_X3_count_L72 T n (nI z) (nI (a + if z = 4 then (if nB τ i < 2 then 0 else 1) else 0)) (nI (i + 1)) τ
    rw [fn_X3_count_L72, h0, if_neg (nI_ge (by omega) (by omega)), b_broken hT hi, gob]
    rcases hz with rfl | rfl
    · rw [if_pos (show nI 4 = 4 from rfl), if_pos rfl]
      by_cases h2 : nB τ i < 2
      · rw [if_pos h2, if_pos (show nI 0 = 0 from rfl), li1, nI_add]; rfl
      · rw [if_neg h2, if_neg e10n, li1, nI_add, nI_add]
    · rw [if_neg (show ¬ nI 6 = 4 by decide), if_neg (show ¬ (6 : Nat) = 4 by decide), li1, nI_add]; rfl
  · show fn_X3_count_L72 T (n + 1) (nI z) (nI a) (nI T) τ = _
    rw [fn_X3_count_L72, h0, if_pos (Int32.le_refl _), b_count2 hT h0 hz]
theorem cS_zero : ∀ (k i : Nat), cS (fun _ => 0) i k = 0 := by
  intro k
  induction k with
  | zero => intro i; rfl
  | succ k ih => intro i; show 0 + cS (fun _ => 0) (i + 1) k = 0; rw [ih]
theorem sim_count {T : Nat} (_ : T = 7 ∨ T = 14 ∨ T = 21) : sm1 (fn_X2_count T) (fn_X3_count T) (RR T) := by
  intro σ τ x hR
  have hT := rr_T hR
  have h0 := rr_t0 hR
  unfold fn_X2_count fn_X3_count
  by_cases x0 : x = 0
  · rw [if_pos x0, if_pos x0, a_freeBlocks hR, b_free hT.2 h0]
    exact ⟨_, σ, τ, rfl, rfl, hR⟩
  rw [if_neg x0, if_neg x0]
  by_cases x1 : x = 1
  · rw [if_pos x1, if_pos x1]
    obtain ⟨m, hm, e1, e2⟩ := longBoth hR
    rw [e1, gob, b_run hT.2 h0 hm, gob]
    refine ⟨nI (rn τ T m), σ, τ, ?_, rfl, hR⟩
    unfold fn_X0_longestRunLength
    rw [e2, gob]
    by_cases r0 : rn τ T m = 0
    · rw [if_pos r0, if_pos rfl, r0]; rfl
    · rcases a_run hR hm with ⟨q0, _⟩ | ⟨_, _, s2⟩
      · exact absurd q0 r0
      · rw [if_neg r0, if_neg (ne_m1 (by omega)), s2]; rfl
  rw [if_neg x1, if_neg x1]
  by_cases x2 : x = 2
  · rw [if_pos x2, if_pos x2, a_lostColumns hR, li1, b_columns hT.2 h0 (Or.inr rfl) (fun i => if τ 3 i = 0 then 0 else 1) (fun i => rfl)]
    exact ⟨_, σ, τ, rfl, rfl, hR⟩
  rw [if_neg x2, if_neg x2]
  by_cases x3 : x = 3
  · rw [if_pos x3, if_pos x3, a_wrongColumns hR, li0, b_columns hT.2 h0 (Or.inl rfl) (nWr τ) (fun i => rfl)]
    exact ⟨_, σ, τ, rfl, rfl, hR⟩
  rw [if_neg x3, if_neg x3]
  by_cases x4 : x = 4
  · subst x4
    rw [if_pos rfl, if_neg (show ¬ (4 : Int32) = 5 by decide), if_pos rfl, a_brokenStripes hR]
    refine ⟨_, σ, τ, rfl, ?_, hR⟩
    have h := b_count1 (z := 4) hT.2 h0 (Or.inl rfl)
    rw [show (fun b => if 4 = 6 then nR τ T b else 0) = (fun _ : Nat => 0) from rfl, cS_zero] at h
    exact h
  rw [if_neg x4]
  by_cases x5 : x = 5
  · obtain ⟨n, hn, hs, ht⟩ := hR.1.2.2.2
    rw [if_pos x5, if_pos x5]
    refine ⟨nI n, σ, τ, ?_, by rw [ht], hR⟩
    unfold fn_X1_nextVisited
    rw [hs]; rfl
  rw [if_neg x5, if_neg x5, if_neg x4]
  by_cases x6 : x = 6
  · subst x6
    rw [if_pos rfl, if_pos rfl, a_freeRuns hR]
    refine ⟨_, σ, τ, rfl, ?_, hR⟩
    have h := b_count1 (z := 6) hT.2 h0 (Or.inr rfl)
    rw [show (fun s => if 6 = 4 then (if nB τ s < 2 then 0 else 1) else 0) = (fun _ : Nat => 0) from rfl, cS_zero, Nat.zero_add] at h
    exact h
  rw [if_neg x6, if_neg x6]
  exact ⟨-1, σ, τ, rfl, rfl, hR⟩
