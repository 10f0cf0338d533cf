/-! PURE ROWS: file, free runs, count (own work) -/
theorem b_length {T f E : Nat} {st sz : Nat → Nat} {σ τ : gS} (hR : RR T σ τ) (hf : f < 8) (hE : rE T σ τ f E st sz) : fn_X3_length T (nI f) τ = some (nI (sumN sz E), τ) := by
  obtain ⟨h3, h9, t9, hx, h8, h63, _⟩ := hE
  have key : ∀ (k e n : Nat), e + k = E → k < n → fn_X3_length_L4 T n (nI f) (nI (sumN sz e)) (nI e) τ = some (nI (sumN sz E), τ) := by
    intro k
    induction k with
    | zero =>
      intro e n h1 h2
      obtain ⟨n, rfl⟩ : ∃ n', n = n' + 1 := ⟨n - 1, by omega⟩
      rw [fn_X3_length_L4, g1 hf (by omega), g2 (by omega), t9, if_pos (nI_le (by omega) (by omega)), show e = E by omega]
    | succ k ih =>
      intro e n h1 h2
      obtain ⟨n, rfl⟩ : ∃ n', n = n' + 1 := ⟨n - 1, by omega⟩
      have he : e < E := by omega
      obtain ⟨x1, x2, x3, x4⟩ := hx e he
      have hj := rr_j hR (show 3 * f + e < 24 by omega)
      have y2 : τ 8 (3 * f + e) = nI (sz e) := by rw [← hj.2]; exact x2
      rw [fn_X3_length_L4, g1 hf (by omega), g2 (by omega), t9, if_neg (nI_ge he (by omega)), xj, g1 (by omega) (by omega), g2 (by omega), y2, nI_add, li1, nI_add]
      exact ih (e + 1) n (by omega) (by omega)
  exact key E 0 gs_fu (by omega) (by rw [fu_e]; omega)
theorem sim_file {T : Nat} (_ : T = 7 ∨ T = 14 ∨ T = 21) : sm2 (fn_X2_file T) (fn_X3_file T) (RR T) := by
  intro σ τ x y hR
  have hT := rr_T hR
  rcases ix x 8 (by omega) with ho | ⟨f, hf, rfl⟩
  · refine ⟨-1, σ, τ, ?_, ?_, hR⟩
    · unfold fn_X2_file; rw [a_isFile_no ho, gob, if_pos rfl]
    · unfold fn_X3_file; rw [li8, b_in_no ho, gob, if_pos rfl]
  · obtain ⟨E, st, sz, hE⟩ := rr_f hR hf
    rcases ix y 8 (by omega) with ho | ⟨w, hw, rfl⟩
    · refine ⟨-1, σ, τ, ?_, ?_, hR⟩
      · unfold fn_X2_file
        rw [a_isFile_in hf, gob, if_neg e10]
        rcases ho with h | h
        · rw [if_pos h]
        · by_cases h0 : y < 0
          · rw [if_pos h0]
          · rw [if_neg h0, if_neg (fun q => ?_)]
            rw [Int32.le_iff_toInt_le, nI_toInt (by omega)] at h
            rw [Int32.le_iff_toInt_le] at q
            have e7 : (7 : Int32).toInt = 7 := by decide
            rw [e7] at q
            omega
      · unfold fn_X3_file
        rw [li8, b_in_in hf (by omega), gob, if_neg e10, b_in_no ho, gob, if_pos rfl]
    · have hy0 : ¬ nI w < 0 := nI_pos (by omega)
      have hy7 : nI w ≤ 7 := nI_le (b := 7) (by omega) (by omega)
      have hex : fn_X0_extentsOf T (nI f) σ = some (nI E, σ) := by
        unfold fn_X0_extentsOf; rw [g1 hf (by omega), g2 (by omega), hE.2.1]
      unfold fn_X2_file fn_X3_file
      rw [a_isFile_in hf, li8, b_in_in hf (by omega)]
      simp only [gob]
      rw [if_neg e10, if_neg hy0, if_pos hy7, if_neg e10, b_in_in hw (by omega), gob, if_neg e10]
      by_cases h0 : w = 0
      · subst h0
        refine ⟨nI (sumN sz E), σ, τ, ?_, ?_, hR⟩
        · rw [if_pos (show nI 0 = 0 from rfl)]
          unfold fn_X0_lengthOf
          rw [g1 hf (by omega), g2 (by omega), hE.2.2.2.2.1, gob]
        · rw [if_pos (show nI 0 = 0 from rfl), b_length hR hf hE, gob]
      · have n0 : ¬ nI w = 0 := nI_ne (b := 0) h0 (by omega) (by omega)
        rw [if_neg n0, if_neg n0]
        by_cases h1 : w = 1
        · subst h1
          refine ⟨nI E, σ, τ, ?_, ?_, hR⟩
          · rw [if_pos (show nI 1 = 1 from rfl), hex, gob]
          · rw [if_pos (show nI 1 = 1 from rfl), g1 hf (by omega), g2 (by omega), hE.2.2.1]
        · have n1 : ¬ nI w = 1 := nI_ne (b := 1) h1 (by omega) (by omega)
          have hE3 := hE.1
          have ed : (nI w / 2 : Int32) = nI (w / 2) := by rw [li2, o_div (by omega) (by omega) (by omega)]
          have ee : (nI (w / 2) - 1 : Int32) = nI (w / 2 - 1) := by rw [li1, o_sub (by omega)]
          rw [if_neg n1, if_neg n1, hex, gob, ed, ee, g1 hf (by omega), g2 (by omega), hE.2.2.1, xj]
          by_cases hlt : w / 2 - 1 < E
          · have hj := rr_j hR (show 3 * f + (w / 2 - 1) < 24 by omega)
            rw [if_pos (nI_lt hlt (by omega)), if_pos (nI_lt hlt (by omega)), a_exStart hf (by omega), a_exSize hf (by omega), g1 (by omega) (by omega), g1 (by omega) (by omega), g2 (by omega)]
            simp only [gob]
            by_cases hq : (nI w - nI (w / 2) * 2 : Int32) = 0
            · refine ⟨τ 7 (3 * f + (w / 2 - 1)), σ, τ, ?_, ?_, hR⟩
              · rw [if_pos hq, hj.1]
              · rw [if_pos hq]
            · refine ⟨τ 8 (3 * f + (w / 2 - 1)), σ, τ, ?_, ?_, hR⟩
              · rw [if_neg hq, hj.2]
              · rw [if_neg hq]
          · refine ⟨-1, σ, τ, ?_, ?_, hR⟩
            · rw [if_neg (nI_nlt (by omega) (by omega))]
            · rw [if_neg (nI_nlt (by omega) (by omega))]
/-! free runs -/
def rlk (τ : gS) : Nat → Nat → Nat
  | 0, _ => 0
  | k + 1, b => if τ 6 b = 0 then rlk τ k (b + 1) + 1 else 0
theorem rlk_le (τ : gS) : ∀ (k b : Nat), rlk τ k b ≤ k := by
  intro k
  induction k with
  | zero => intro b; exact Nat.le_refl 0
  | succ k ih =>
    intro b
    show (if τ 6 b = 0 then rlk τ k (b + 1) + 1 else 0) ≤ k + 1
    have := ih (b + 1)
    split <;> omega
theorem rlk_free (τ : gS) : ∀ (k b j : Nat), b ≤ j → j < b + rlk τ k b → τ 6 j = 0 := by
  intro k
  induction k with
  | zero => intro b j h1 h2; have : rlk τ 0 b = 0 := rfl; omega
  | succ k ih =>
    intro b j h1 h2
    have e : rlk τ (k + 1) b = if τ 6 b = 0 then rlk τ k (b + 1) + 1 else 0 := rfl
    by_cases h : τ 6 b = 0
    · rw [if_pos h] at e
      by_cases hjb : j = b
      · rw [hjb]; exact h
      · exact ih (b + 1) j (by omega) (by omega)
    · rw [if_neg h] at e; omega
/-- does a free run start here; its length -/
def sR (τ : gS) (b : Nat) : Prop := τ 6 b = 0 ∧ (b = 0 ∨ ¬ τ 6 (b - 1) = 0)
theorem rr_b {T b : Nat} {σ τ : gS} (h : RR T σ τ) (hb : b < 3 * T) : (σ 7 b = 0 ∧ τ 6 b = 0) ∨ (σ 7 b = 1 ∧ ¬ τ 6 b = 0) := by
  rcases h.2.2.2.2.2.1 b hb with h | ⟨h1, f, hf, h2⟩
  · exact Or.inl h
  · exact Or.inr ⟨h1, by rw [h2]; exact nI_ne0 (by omega) (by omega)⟩
theorem rr_b0 {T b : Nat} {σ τ : gS} (h : RR T σ τ) (hb : b < 3 * T) : (σ 7 b = 0) = (τ 6 b = 0) := by
  rcases rr_b h hb with ⟨h1, h2⟩ | ⟨h1, h2⟩
  · rw [h1, h2]
  · exact propext ⟨fun q => by rw [h1] at q; exact absurd q e10, fun q => absurd q h2⟩
theorem a_startsRun {T b : Nat} {σ τ : gS} (hR : RR T σ τ) (hb : b < 3 * T) : (sR τ b → fn_X0_startsRun T (nI b) σ = some (1, σ)) ∧ (¬ sR τ b → fn_X0_startsRun T (nI b) σ = some (0, σ)) := by
  have hT := rr_T hR
  unfold fn_X0_startsRun sR
  rw [g1 hb (by omega), g2 (by omega)]
  rcases rr_b hR hb with ⟨h1, h2⟩ | ⟨h1, h2⟩
  · rw [h1, if_pos rfl]
    by_cases hb0 : b = 0
    · subst hb0
      rw [if_pos (show nI 0 = 0 from rfl)]
      exact ⟨fun _ => rfl, fun q => absurd ⟨h2, Or.inl rfl⟩ q⟩
    · rw [if_neg (nI_ne (b := 0) hb0 (by omega) (by omega)), li1, o_sub (by omega), g1 (by omega) (by omega), g2 (by omega)]
      rcases rr_b hR (show b - 1 < 3 * T by omega) with ⟨k1, k2⟩ | ⟨k1, k2⟩
      · rw [k1, if_pos rfl]
        refine ⟨fun q => ?_, fun _ => rfl⟩
        rcases q.2 with q | q
        · exact absurd q hb0
        · exact absurd k2 q
      · rw [k1, if_neg e10]
        exact ⟨fun _ => rfl, fun q => absurd ⟨h2, Or.inr k2⟩ q⟩
  · rw [h1, if_neg e10]
    exact ⟨fun q => absurd q.1 h2, fun _ => rfl⟩
theorem a_runFrom {T b : Nat} {σ τ : gS} (hR : RR T σ τ) (hb : b ≤ 3 * T) : fn_X0_runFrom T (nI b) σ = some (nI (rlk τ (3 * T - b) b), σ) := by
  have hT := rr_T hR
  have key : ∀ (k e n : Nat), e + k = 3 * T → k < n → b ≤ e → fn_X0_runFrom_L2 T n (nI b) (nI e) σ = some (nI (e - b + rlk τ k e), σ) := by
    intro k
    induction k with
    | zero =>
      intro e n h1 h2 h3
      obtain ⟨n, rfl⟩ : ∃ n', n = n' + 1 := ⟨n - 1, by omega⟩
      rw [fn_X0_runFrom_L2, if_pos (nI_le (by omega) (by omega)), o_sub h3]; rfl
    | succ k ih =>
      intro e n h1 h2 h3
      obtain ⟨n, rfl⟩ : ∃ n', n = n' + 1 := ⟨n - 1, by omega⟩
      have er : rlk τ (k + 1) e = if τ 6 e = 0 then rlk τ k (e + 1) + 1 else 0 := rfl
      rw [fn_X0_runFrom_L2, if_neg (nI_ge (by omega) (by omega)), g1 (by omega) (by omega), g2 (by omega)]
      rcases rr_b hR (show e < 3 * T by omega) with ⟨k1, k2⟩ | ⟨k1, k2⟩
      · rw [k1, if_pos rfl, er, if_pos k2, li1, nI_add, ih (e + 1) n (by omega) (by omega) (by omega), show e + 1 - b + rlk τ k (e + 1) = e - b + (rlk τ k (e + 1) + 1) by omega]
      · rw [k1, if_neg e10, er, if_neg k2, o_sub h3]; rfl
  have h := key (3 * T - b) b gs_fu (by omega) (by rw [fu_e]; omega) (Nat.le_refl _)
  rw [show b - b + rlk τ (3 * T - b) b = rlk τ (3 * T - b) b by omega] at h
  exact h
/-- the run that starts at b, 0 if none does -/
noncomputable def rn (τ : gS) (T b : Nat) : Nat := @ite Nat (sR τ b) (Classical.propDecidable _) (rlk τ (3 * T - b) b) 0
theorem rn_y {τ : gS} {T b : Nat} (h : sR τ b) : rn τ T b = rlk τ (3 * T - b) b := by unfold rn; rw [if_pos h]
theorem rn_n {τ : gS} {T b : Nat} (h : ¬ sR τ b) : rn τ T b = 0 := by unfold rn; rw [if_neg h]
theorem rn_pos {τ : gS} {T b : Nat} (hb : b < 3 * T) (h : sR τ b) : 1 ≤ rn τ T b := by
  rw [rn_y h, show 3 * T - b = (3 * T - b - 1) + 1 by omega]
  show 1 ≤ if τ 6 b = 0 then rlk τ (3 * T - b - 1) (b + 1) + 1 else 0
  rw [if_pos h.1]; omega
theorem rn_s {τ : gS} {T b : Nat} (h : rn τ T b ≠ 0) : sR τ b := by
  apply Classical.byContradiction
  intro q
  exact h (rn_n q)
theorem rn_le (τ : gS) (T b : Nat) : rn τ T b ≤ 3 * T - b := by
  apply Classical.byContradiction
  intro q
  have hs : sR τ b := rn_s (by omega)
  rw [rn_y hs] at q
  exact q (rlk_le τ _ _)
theorem b_run {T b : Nat} {τ : gS} (hT : T ≤ 21) (h0 : τ 0 0 = nI T) (hb : b < 3 * T) : fn_X3_run T (nI b) τ = some (nI (rn τ T b), τ) := by
  have key : ∀ (k e n : Nat), b + e + k = 3 * T → k < n → fn_X3_run_L28 T n (nI b) (nI e) τ = some (nI (e + rlk τ k (b + e)), τ) := by
    intro k
    induction k with
    | zero =>
      intro e n h1 h2
      obtain ⟨n, rfl⟩ : ∃ n', n = n' + 1 := ⟨n - 1, by omega⟩
      rw [fn_X3_run_L28, h0, li3, pk_mul, nI_add, if_pos (nI_le (by omega) (by omega))]; rfl
    | succ k ih =>
      intro e n h1 h2
      obtain ⟨n, rfl⟩ : ∃ n', n = n' + 1 := ⟨n - 1, by omega⟩
      have er : rlk τ (k + 1) (b + e) = if τ 6 (b + e) = 0 then rlk τ k (b + e + 1) + 1 else 0 := rfl
      rw [fn_X3_run_L28, h0, li3, pk_mul, nI_add, if_neg (nI_ge (by omega) (by omega)), g1 (by omega) (by omega), g2 (by omega)]
      by_cases k2 : τ 6 (b + e) = 0
      · rw [if_pos k2, er, if_pos k2, li1, nI_add, ih (e + 1) n (by omega) (by omega), show b + (e + 1) = b + e + 1 by omega, show e + 1 + rlk τ k (b + e + 1) = e + (rlk τ k (b + e + 1) + 1) by omega]
      · rw [if_neg k2, er, if_neg k2]; rfl
  have hk := key (3 * T - b) 0 gs_fu (by omega) (by rw [fu_e]; omega)
  rw [Nat.zero_add, Nat.add_zero] at hk
  have hk : fn_X3_run_L28 T gs_fu (nI b) 0 τ = some (nI (rlk τ (3 * T - b) b), τ) := hk
  unfold fn_X3_run
  rw [g1 (by omega) (by omega), g2 (by omega)]
  by_cases h6 : τ 6 b = 0
  · rw [if_pos h6]
    by_cases hb0 : b = 0
    · rw [if_pos (by rw [hb0]; exact Int32.le_refl _), hk, rn_y ⟨h6, Or.inl hb0⟩]
    · rw [if_neg (show ¬ nI b ≤ 0 from nI_ge (a := 0) (by omega) (by omega)), li1, o_sub (by omega), g1 (by omega) (by omega), g2 (by omega)]
      by_cases h7 : τ 6 (b - 1) = 0
      · rw [if_pos h7, rn_n (fun q => by rcases q.2 with q | q; exact hb0 q; exact q h7)]; rfl
      · rw [if_neg h7, hk, rn_y ⟨h6, Or.inr h7⟩]
  · rw [if_neg h6, rn_n (fun q => h6 q.1)]; rfl
/-- what startsRun and runFrom say together -/
theorem a_run {T b : Nat} {σ τ : gS} (hR : RR T σ τ) (hb : b < 3 * T) : (rn τ T b = 0 ∧ fn_X0_startsRun T (nI b) σ = some (0, σ)) ∨ (1 ≤ rn τ T b ∧ fn_X0_startsRun T (nI b) σ = some (1, σ) ∧ fn_X0_runFrom T (nI b) σ = some (nI (rn τ T b), σ)) := by
  by_cases h : sR τ b
  · right
    refine ⟨rn_pos hb h, (a_startsRun hR hb).1 h, ?_⟩
    rw [rn_y h]; exact a_runFrom hR (by omega)
  · left
    exact ⟨rn_n h, (a_startsRun hR hb).2 h⟩
/-- the longest run: the first of the longest -/
theorem longBoth {T : Nat} {σ τ : gS} (hR : RR T σ τ) : ∃ m, m < 3 * T ∧ fn_X3_longest T τ = some (nI m, τ) ∧ fn_X0_longestRun T σ = some (if rn τ T m = 0 then -1 else nI m, σ) := by
  have hT := rr_T hR
  have key : ∀ (k b mA mB m : Nat), b + k = 3 * T → k < mA → k < mB → m < 3 * T → ∃ m', m' < 3 * T ∧ fn_X3_longest_L4 T mB (nI m) (nI b) τ = some (nI m', τ) ∧ fn_X0_longestRun_L6 T mA (if rn τ T m = 0 then -1 else nI m) (nI (rn τ T m)) (nI b) σ = some (if rn τ T m' = 0 then -1 else nI m', σ) := by
    intro k
    induction k with
    | zero =>
      intro b mA mB m h1 h2 h3 h4
      obtain ⟨mA, rfl⟩ : ∃ n', mA = n' + 1 := ⟨mA - 1, by omega⟩
      obtain ⟨mB, rfl⟩ : ∃ n', mB = n' + 1 := ⟨mB - 1, by omega⟩
      refine ⟨m, h4, ?_, ?_⟩
      · rw [fn_X3_longest_L4, rr_t0 hR, li3, pk_mul, if_pos (nI_le (by omega) (by omega))]
      · rw [fn_X0_longestRun_L6, if_pos (nI_le (by omega) (by omega))]
    | succ k ih =>
      intro b mA mB m h1 h2 h3 h4
      obtain ⟨mA, rfl⟩ : ∃ n', mA = n' + 1 := ⟨mA - 1, by omega⟩
      obtain ⟨mB, rfl⟩ : ∃ n', mB = n' + 1 := ⟨mB - 1, by omega⟩
      have hb : b < 3 * T := by omega
      have l1 := rn_le τ T b
      have l2 := rn_le τ T m
      have eB : fn_X3_longest_L4 T (mB + 1) (nI m) (nI b) τ = if rn τ T b ≤ rn τ T m then fn_X3_longest_L4 T mB (nI m) (nI (b + 1)) τ else fn_X3_longest_L4 T mB (nI b) (nI (b + 1)) τ := by
        rw [fn_X3_longest_L4, rr_t0 hR, li3, pk_mul, if_neg (nI_ge (by omega) (by omega)), b_run hT.2 (rr_t0 hR) hb, gob, b_run hT.2 (rr_t0 hR) h4, gob, li1, nI_add]
        by_cases q : rn τ T b ≤ rn τ T m
        · rw [if_pos q, if_pos (nI_le q (by omega))]
        · rw [if_neg q, if_neg (nI_ge (by omega) (by omega))]
      by_cases q : rn τ T b ≤ rn τ T m
      · obtain ⟨m', hm', f1, f2⟩ := ih (b + 1) mA mB m (by omega) (by omega) (by omega) h4
        refine ⟨m', hm', ?_, ?_⟩
        · rw [eB, if_pos q]; exact f1
        · rw [fn_X0_longestRun_L6, if_neg (nI_ge (by omega) (by omega))]
          rcases a_run hR hb with ⟨r0, s0⟩ | ⟨r1, s1, s2⟩
          · rw [s0, gob, if_pos rfl, li1, nI_add]; exact f2
          · rw [s1, gob, if_neg e10, s2, gob, if_pos (nI_le q (by omega)), li1, nI_add]; exact f2
      · obtain ⟨m', hm', f1, f2⟩ := ih (b + 1) mA mB b (by omega) (by omega) (by omega) hb
        refine ⟨m', hm', ?_, ?_⟩
        · rw [eB, if_neg q]; exact f1
        · rw [fn_X0_longestRun_L6, if_neg (nI_ge (by omega) (by omega))]
          rcases a_run hR hb with ⟨r0, s0⟩ | ⟨r1, s1, s2⟩
          · omega
          · rw [s1, gob, if_neg e10, s2, gob, if_neg (nI_ge (by omega) (by omega)), s2, gob, li1, nI_add]
            rw [if_neg (show ¬ rn τ T b = 0 by omega)] at f2
            exact f2
  have h00 : 0 < 3 * T := by omega
  by_cases r0 : rn τ T 0 = 0
  · obtain ⟨m, hm, f1, f2⟩ := key (3 * T) 0 gs_fu gs_fu 0 (by omega) (by rw [fu_e]; omega) (by rw [fu_e]; omega) h00
    rw [r0, if_pos rfl] at f2
    exact ⟨m, hm, f1, f2⟩
  · obtain ⟨m, hm, f1, f2⟩ := key (3 * T - 1) 1 199 gs_fu 0 (by omega) (by omega) (by rw [fu_e]; omega) h00
    refine ⟨m, hm, ?_, ?_⟩
    · have l1 := rn_le τ T 0
      have eB : fn_X3_longest_L4 T (199 + 1) (nI 0) (nI 0) τ = fn_X3_longest_L4 T 199 (nI 0) (nI 1) τ := by
        rw [fn_X3_longest_L4, rr_t0 hR, li3, pk_mul, if_neg (nI_ge (by omega) (by omega)), b_run hT.2 (rr_t0 hR) h00, gob, b_run hT.2 (rr_t0 hR) h00, gob, li1, nI_add, if_pos (Int32.le_refl _)]
      obtain ⟨m2, hm2, f3, f4⟩ := key (3 * T - 1) 1 199 199 0 (by omega) (by omega) (by omega) h00
      have e5 : some (if rn τ T m2 = 0 then (-1 : Int32) else nI m2, σ) = some (if rn τ T m = 0 then -1 else nI m, σ) := f4.symm.trans f2
      sorry
    · have l1 := rn_le τ T 0
      rcases a_run hR h00 with ⟨r1, s0⟩ | ⟨r1, s1, s2⟩
      · exact absurd r1 r0
      · show fn_X0_longestRun_L6 T (199 + 1) (-1) (nI 0) (nI 0) σ = _
        rw [fn_X0_longestRun_L6, if_neg (nI_ge (by omega) (by omega)), s1, gob, if_neg e10, s2, gob, if_neg (nI_ge (by omega) (by omega)), s2, gob, li1, nI_add]
        rw [if_neg r0] at f2
        exact f2
