/-! PURE ROWS: what RR gives; ranges (own work) -/
theorem rr_T {T : Nat} {σ τ : gS} (h : RR T σ τ) : 7 ≤ T ∧ T ≤ 21 := by
  rcases h.1.1 with q | q | q <;> omega
theorem rr_s6 {T : Nat} {σ τ : gS} (h : RR T σ τ) : σ 6 0 = nI T := h.1.2.1
theorem rr_t0 {T : Nat} {σ τ : gS} (h : RR T σ τ) : τ 0 0 = nI T := h.1.2.2.1
theorem rr_w {T i : Nat} {σ τ : gS} (h : RR T σ τ) (hi : i < 4 * T) : σ 1 i = τ 1 i ∧ σ 2 i = τ 2 i ∧ σ 3 i = τ 3 i := ⟨(h.2.1 i hi).1, (h.2.1 i hi).2.1, (h.2.1 i hi).2.2.1⟩
theorem rr_l {T i : Nat} {σ τ : gS} (h : RR T σ τ) (hi : i < 4 * T) : τ 3 i = nI 0 ∨ τ 3 i = nI 1 := (h.2.1 i hi).2.2.2
theorem rr_z3 {T : Nat} {σ τ : gS} (h : RR T σ τ) : zB3 T σ := fun i hi => by rw [(rr_w h hi).2.2]; exact rr_l h hi
theorem rr_bd {T i : Nat} {σ τ : gS} (h : RR T σ τ) (hi : i < 4 * T) : nBd σ i = nBd τ i := by
  obtain ⟨h1, h2, h3⟩ := rr_w h hi
  unfold nBd; rw [h1, h2, h3]
theorem rr_wr {T i : Nat} {σ τ : gS} (h : RR T σ τ) (hi : i < 4 * T) : nWr σ i = nWr τ i := by
  obtain ⟨h1, h2, h3⟩ := rr_w h hi
  unfold nWr; rw [h1, h2, h3]
theorem rr_nB {T s : Nat} {σ τ : gS} (h : RR T σ τ) (hs : s < T) : nB σ s = nB τ s := cS_congr 4 _ (fun j h1 h2 => rr_bd h (by omega))
theorem nB4 (σ : gS) (s : Nat) : nB σ s = nBd σ (4 * s) + nBd σ (4 * s + 1) + nBd σ (4 * s + 2) + nBd σ (4 * s + 3) := by
  show nBd σ (4 * s) + (nBd σ (4 * s + 1) + (nBd σ (4 * s + 2) + (nBd σ (4 * s + 3) + 0))) = _
  omega
theorem a_broken {T s : Nat} {σ τ : gS} (h : RR T σ τ) (hs : s < T) : fn_X1_isBroken T (nI s) σ = some (nI (if nB τ s < 2 then 0 else 1), σ) := by
  rw [a_isBroken (rr_T h).2 hs (rr_z3 h), rr_nB h hs]
/-- both sides keep all but words and cells -/
theorem rr_keep {T : Nat} {σ τ σ' τ' : gS} (h : RR T σ τ) (hσ : ∀ k, k ≠ 1 → k ≠ 2 → σ' k = σ k) (hτ : ∀ k, k ≠ 1 → k ≠ 2 → τ' k = τ k) (hw : ∀ i, i < 4 * T → σ' 1 i = τ' 1 i ∧ σ' 2 i = τ' 2 i) (hx : rX T τ') : RR T σ' τ' := by
  obtain ⟨hN, hW, hX, hM, hP, hB, hJ, hE⟩ := h
  refine ⟨?_, fun i hi => ?_, hx, fun s hs => ?_, ?_, ?_, ?_, fun f hf => ?_⟩
  · unfold rN at hN ⊢
    rw [hσ 6 (by omega) (by omega), hτ 0 (by omega) (by omega), hσ 5 (by omega) (by omega), hτ 10 (by omega) (by omega)]
    exact hN
  · obtain ⟨-, -, h3, h4⟩ := hW i hi
    rw [hσ 3 (by omega) (by omega), hτ 3 (by omega) (by omega)]
    exact ⟨(hw i hi).1, (hw i hi).2, h3, h4⟩
  · obtain ⟨m, h1, h2, h3, h4⟩ := hM s hs
    refine ⟨m, h1, ?_, ?_, ?_⟩
    · rw [hσ 4 (by omega) (by omega)]; exact h2
    · rw [hτ 4 (by omega) (by omega)]; exact h3
    · rw [hτ 3 (by omega) (by omega)]; exact h4
  · unfold rP at hP ⊢
    rw [hσ 0 (by omega) (by omega), hτ 5 (by omega) (by omega)]; exact hP
  · unfold rB at hB ⊢
    rw [hσ 7 (by omega) (by omega), hτ 6 (by omega) (by omega)]; exact hB
  · rw [hσ 10 (by omega) (by omega), hτ 7 (by omega) (by omega), hσ 11 (by omega) (by omega), hτ 8 (by omega) (by omega)]; exact hJ
  · obtain ⟨E, st, sz, he⟩ := hE f hf
    refine ⟨E, st, sz, ?_⟩
    unfold rE at he ⊢
    rw [hσ 9 (by omega) (by omega), hτ 9 (by omega) (by omega), hσ 10 (by omega) (by omega), hσ 11 (by omega) (by omega), hσ 8 (by omega) (by omega), hτ 6 (by omega) (by omega)]
    exact he
theorem rr_cell {T i : Nat} {σ τ : gS} {v w : Int32} (h : RR T σ τ) (hv : v = w) : RR T (gs_st σ 2 (upd (σ 2) i v)) (gs_st τ 2 (upd (τ 2) i w)) := by
  subst hv
  refine rr_keep h (fun k _ h2 => st_n h2) (fun k _ h2 => st_n h2) (fun j hj => ⟨(rr_w h hj).1, ?_⟩) h.2.2.1
  show upd (σ 2) i v j = upd (τ 2) i v j
  by_cases hji : j = i
  · rw [hji, pk_us, pk_us]
  · rw [pk_un hji, pk_un hji]; exact (rr_w h hj).2.1
/-! ranges -/
theorem a_isFile_no {T : Nat} {x : Int32} {σ : gS} (h : x < 0 ∨ nI 8 ≤ x) : fn_X2_isFile T x σ = some (0, σ) := by
  unfold fn_X2_isFile
  rw [li8]
  rcases h with h | h
  · rw [if_pos h]
  · by_cases h0 : x < 0
    · rw [if_pos h0]
    · rw [if_neg h0, if_pos h]
theorem a_isFile_in {T j : Nat} {σ : gS} (h : j < 8) : fn_X2_isFile T (nI j) σ = some (1, σ) := by
  unfold fn_X2_isFile
  rw [if_neg (nI_pos (by omega)), if_neg (by rw [li8, c_le (by omega) (by omega)]; omega)]
theorem a_isDisk_no {T : Nat} {x : Int32} {σ : gS} (h : x < 0 ∨ nI 7 ≤ x) : fn_X2_isDisk T x σ = some (0, σ) := by
  unfold fn_X2_isDisk
  rw [li7]
  rcases h with h | h
  · rw [if_pos h]
  · by_cases h0 : x < 0
    · rw [if_pos h0]
    · rw [if_neg h0, if_pos h]
theorem a_isDisk_in {T j : Nat} {σ : gS} (h : j < 7) : fn_X2_isDisk T (nI j) σ = some (1, σ) := by
  unfold fn_X2_isDisk
  rw [if_neg (nI_pos (by omega)), if_neg (by rw [li7, c_le (by omega) (by omega)]; omega)]
theorem a_isColumn_no {T : Nat} {x : Int32} {σ : gS} (h : x < 0 ∨ nI 4 ≤ x) : fn_X2_isColumn T x σ = some (0, σ) := by
  unfold fn_X2_isColumn
  rw [li4]
  rcases h with h | h
  · rw [if_pos h]
  · by_cases h0 : x < 0
    · rw [if_pos h0]
    · rw [if_neg h0, if_pos h]
theorem a_isColumn_in {T j : Nat} {σ : gS} (h : j < 4) : fn_X2_isColumn T (nI j) σ = some (1, σ) := by
  unfold fn_X2_isColumn
  rw [if_neg (nI_pos (by omega)), if_neg (by rw [li4, c_le (by omega) (by omega)]; omega)]
theorem a_isStripe_no {T : Nat} {x : Int32} {σ τ : gS} (hR : RR T σ τ) (h : x < 0 ∨ nI T ≤ x) : fn_X1_isStripe T x σ = some (0, σ) := by
  unfold fn_X1_isStripe
  rw [rr_s6 hR]
  rcases h with h | h
  · rw [if_pos h]
  · by_cases h0 : x < 0
    · rw [if_pos h0]
    · rw [if_neg h0, if_pos h]
theorem a_isStripe_in {T j : Nat} {σ τ : gS} (hR : RR T σ τ) (h : j < T) : fn_X1_isStripe T (nI j) σ = some (1, σ) := by
  have hT := rr_T hR
  unfold fn_X1_isStripe
  rw [rr_s6 hR, if_neg (nI_pos (by omega)), if_neg (by rw [c_le (by omega) (by omega)]; omega)]
theorem b_in_no {T n : Nat} {x : Int32} {σ : gS} (h : x < 0 ∨ nI n ≤ x) : fn_X3_in T x (nI n) σ = some (0, σ) := by
  unfold fn_X3_in
  rcases h with h | h
  · rw [if_pos h]
  · by_cases h0 : x < 0
    · rw [if_pos h0]
    · rw [if_neg h0, if_pos h]
theorem b_in_in {T n j : Nat} {σ : gS} (h : j < n) (hn : n < 2147483648) : fn_X3_in T (nI j) (nI n) σ = some (1, σ) := by
  unfold fn_X3_in
  rw [if_neg (nI_pos (by omega)), if_neg (by rw [c_le (by omega) (by omega)]; omega)]
/-- an int is out of a range, or a number in it -/
theorem ix (x : Int32) (n : Nat) (hn : n < 2147483648) : (x < 0 ∨ nI n ≤ x) ∨ ∃ j, j < n ∧ x = nI j := by
  rcases pk_ix x hn with h | h | h
  · exact Or.inl (Or.inl h)
  · exact Or.inl (Or.inr h)
  · exact Or.inr h
theorem e10 : ¬ (1 : Int32) = 0 := by decide
theorem e10n : ¬ nI 1 = 0 := by decide
theorem nI_ne {a b : Nat} (h : a ≠ b) (ha : a < 2147483648) (hb : b < 2147483648) : ¬ nI a = nI b := fun q => h ((nI_eq ha hb).mp q)
/-! homes and spares -/
def h4 (c : Nat) : Nat := match c with
  | 0 => 2
  | 1 => 4
  | 2 => 5
  | _ => 6
def hm (s c : Nat) : Nat := (s % 7 + h4 c) % 7
theorem hm_lt (s c : Nat) : hm s c < 7 := Nat.mod_lt _ (by omega)
theorem h4_le (c : Nat) : h4 c ≤ 6 := by
  unfold h4
  split <;> omega
theorem tabH_e {c : Nat} (h : c < 4) : tabH c = nI (h4 c) := by
  rcases (show c = 0 ∨ c = 1 ∨ c = 2 ∨ c = 3 by omega) with rfl | rfl | rfl | rfl <;> rfl
theorem a_spare {T s : Nat} {σ : gS} (hs : s < 84) : fn_X1_spare T (nI s) σ = some (nI (s % 7), σ) := by
  simp (disch := omega) only [fn_X1_spare, li7, o_div, pk_mul, o_sub]
  rw [show s - s / 7 * 7 = s % 7 by omega]
theorem a_home {T s c : Nat} {σ : gS} (hs : s < 84) (hc : c < 4) : fn_X1_home T (nI s) (nI c) σ = some (nI (hm s c), σ) := by
  have h6 := h4_le c
  simp (disch := omega) only [fn_X1_home, g1, g2, tabH_e hc, li7, o_div, pk_mul, o_sub, nI_add]
  unfold hm
  rw [show s - s / 7 * 7 + h4 c - (s - s / 7 * 7 + h4 c) / 7 * 7 = (s % 7 + h4 c) % 7 by omega]
theorem b_spare {T i : Nat} {τ : gS} (hi : i < 84) : fn_X3_spare T (nI i) τ = some (nI (i / 4 % 7), τ) := by
  simp (disch := omega) only [fn_X3_spare, li7, li4, o_div, pk_mul, o_sub]
  rw [show i / 4 - i / 4 / 7 * 7 = i / 4 % 7 by omega]
theorem b_home {T i : Nat} {τ : gS} (hi : i < 84) : fn_X3_home T (nI i) τ = some (nI (hm (i / 4) (i % 4)), τ) := by
  simp (disch := omega) only [fn_X3_home, li7, li6, li5, li4, li2, li1, li0, o_div, pk_mul, o_sub, nI_add, c_eq]
  unfold hm
  rcases (show i % 4 = 0 ∨ i % 4 = 1 ∨ i % 4 = 2 ∨ i % 4 = 3 by omega) with h | h | h | h <;> rw [h]
  · rw [if_pos (by omega)]
    show some (nI _, τ) = some (nI ((i / 4 % 7 + 2) % 7), τ)
    rw [show i / 4 - i / 4 / 7 * 7 + 2 - (i / 4 - i / 4 / 7 * 7 + 2) / 7 * 7 = (i / 4 % 7 + 2) % 7 by omega]
  · rw [if_neg (by omega), if_pos (by omega)]
    show some (nI _, τ) = some (nI ((i / 4 % 7 + 4) % 7), τ)
    rw [show i / 4 - i / 4 / 7 * 7 + 4 - (i / 4 - i / 4 / 7 * 7 + 4) / 7 * 7 = (i / 4 % 7 + 4) % 7 by omega]
  · rw [if_neg (by omega), if_neg (by omega), if_pos (by omega)]
    show some (nI _, τ) = some (nI ((i / 4 % 7 + 5) % 7), τ)
    rw [show i / 4 - i / 4 / 7 * 7 + 5 - (i / 4 - i / 4 / 7 * 7 + 5) / 7 * 7 = (i / 4 % 7 + 5) % 7 by omega]
  · rw [if_neg (by omega), if_neg (by omega), if_neg (by omega)]
    show some (nI _, τ) = some (nI ((i / 4 % 7 + 6) % 7), τ)
    rw [show i / 4 - i / 4 / 7 * 7 + 6 - (i / 4 - i / 4 / 7 * 7 + 6) / 7 * 7 = (i / 4 % 7 + 6) % 7 by omega]
/-- is column i's cell on disk d -/
def nOn (τ : gS) (d i : Nat) : Nat := if τ 3 i = 0 then (if τ 4 i = 0 then (if d = hm (i / 4) (i % 4) then 1 else 0) else (if d = i / 4 % 7 then 1 else 0)) else 0
theorem nOn_01 (τ : gS) (d i : Nat) : nOn τ d i = 0 ∨ nOn τ d i = 1 := by
  unfold nOn
  split
  · split
    · split
      · exact Or.inr rfl
      · exact Or.inl rfl
    · split
      · exact Or.inr rfl
      · exact Or.inl rfl
  · exact Or.inl rfl
theorem rr_l1 {T i : Nat} {σ τ : gS} (h : RR T σ τ) (hi : i < 4 * T) (h0 : ¬ τ 3 i = 0) : τ 3 i = nI 1 := (rr_l h hi).resolve_left h0
theorem rr_mv {T s c : Nat} {σ τ : gS} (h : RR T σ τ) (hs : s < T) (hc : c < 4) : (σ 4 s = nI c ∧ τ 4 (4 * s + c) = nI 1 ∧ τ 3 (4 * s + c) = 0) ∨ (¬ σ 4 s = nI c ∧ τ 4 (4 * s + c) = nI 0) := by
  obtain ⟨m, h1, h2, h3, h5⟩ := h.2.2.2.1 s hs
  by_cases hm : m = c
  · left
    have h6 := h3 c hc
    rw [if_pos hm] at h6
    subst hm
    exact ⟨h2, h6, h5 hc⟩
  · right
    have h6 := h3 c hc
    rw [if_neg hm] at h6
    exact ⟨by rw [h2]; exact nI_ne hm (by omega) (by omega), h6⟩
theorem a_isOn {T s c d : Nat} {σ τ : gS} (h : RR T σ τ) (hs : s < T) (hc : c < 4) (hd : d < 7) : fn_X1_isOn T (nI s) (nI c) (nI d) σ = some (nI (nOn τ d (4 * s + c)), σ) := by
  have hT := rr_T h
  have hi : 4 * s + c < 4 * T := by omega
  simp (disch := omega) only [fn_X1_isOn, a_isLost hT.2 hs hc (rr_z3 h), gob, g1, g2, a_spare, a_home]
  rw [(rr_w h hi).2.2]
  unfold nOn
  rw [show (4 * s + c) / 4 = s by omega, show (4 * s + c) % 4 = c by omega]
  by_cases h3 : τ 3 (4 * s + c) = 0
  · rw [if_pos h3, if_pos h3]
    rcases rr_mv h hs hc with ⟨q1, q2, q3⟩ | ⟨q1, q2⟩
    · rw [if_pos q1, q2, if_neg e10n]
      by_cases hq : d = s % 7
      · rw [if_pos hq, if_pos (by rw [hq])]; rfl
      · rw [if_neg hq, if_neg (nI_ne hq (by omega) (by omega))]; rfl
    · rw [if_neg q1, q2, if_pos (show nI 0 = (0 : Int32) from rfl)]
      have hlt := hm_lt s c
      by_cases hq : d = hm s c
      · rw [if_pos hq, if_pos (by rw [hq])]; rfl
      · rw [if_neg hq, if_neg (nI_ne hq (by omega) (by omega))]; rfl
  · rw [if_neg h3, if_neg h3]; rfl
theorem b_on {T i : Nat} {τ : gS} (hi : i < 84) : ∃ r, fn_X3_on T (nI i) τ = some (r, τ) ∧ ∀ d, d < 7 → (r = nI d ↔ nOn τ d i = 1) := by
  have hlt := hm_lt (i / 4) (i % 4)
  by_cases h3 : τ 3 i = 0
  · by_cases h4 : τ 4 i = 0
    · refine ⟨nI (hm (i / 4) (i % 4)), ?_, fun d hd => ?_⟩
      · simp (disch := omega) only [fn_X3_on, g1, g2, h3, h4, if_true, b_home, gob]
      · unfold nOn
        rw [if_pos h3, if_pos h4, nI_eq (by omega) (by omega)]
        by_cases hq : d = hm (i / 4) (i % 4)
        · rw [if_pos hq]; exact ⟨fun _ => rfl, fun _ => hq.symm⟩
        · rw [if_neg hq]; exact ⟨fun z => absurd z.symm hq, fun z => by omega⟩
    · refine ⟨nI (i / 4 % 7), ?_, fun d hd => ?_⟩
      · simp (disch := omega) only [fn_X3_on, g1, g2, h3, if_neg h4, if_true, b_spare, gob]
      · unfold nOn
        rw [if_pos h3, if_neg h4, nI_eq (by omega) (by omega)]
        by_cases hq : d = i / 4 % 7
        · rw [if_pos hq]; exact ⟨fun _ => rfl, fun _ => hq.symm⟩
        · rw [if_neg hq]; exact ⟨fun z => absurd z.symm hq, fun z => by omega⟩
  · refine ⟨-1, ?_, fun d hd => ?_⟩
    · simp (disch := omega) only [fn_X3_on, g1, g2, if_neg h3]
    · unfold nOn
      rw [if_neg h3]
      refine ⟨fun z => ?_, fun z => by omega⟩
      have h9 := congrArg Int32.toInt z
      rw [nI_toInt (by omega)] at h9
      have h8 : (-1 : Int32).toInt = -1 := by decide
      rw [h8] at h9
      omega
