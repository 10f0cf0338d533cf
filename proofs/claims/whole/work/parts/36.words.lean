/-! PURE ROWS: blocks of files, read, write (own work) -/
theorem sumN_mono (f : Nat → Nat) : ∀ (n m : Nat), n ≤ m → sumN f n ≤ sumN f m := by
  intro n m h
  induction m with
  | zero => rw [show n = 0 by omega]; exact Nat.le_refl _
  | succ m ih =>
    by_cases hnm : n = m + 1
    · rw [hnm]; exact Nat.le_refl _
    · have := ih (by omega)
      show sumN f n ≤ sumN f m + f m
      omega
theorem xi {f e : Nat} : (nI f * 3 + nI e : Int32) = nI (3 * f + e) := by rw [li3, pk_mul, nI_add, Nat.mul_comm]
theorem xj {f e : Nat} : (3 * nI f + nI e : Int32) = nI (3 * f + e) := by rw [li3, pk_mul, nI_add]
theorem a_exSize {T f e : Nat} {σ : gS} (hf : f < 8) (he : e < 3) : fn_X0_extentSize T (nI f) (nI e) σ = some (σ 11 (3 * f + e), σ) := by
  unfold fn_X0_extentSize
  rw [xi, g1 (by omega) (by omega), g2 (by omega)]
theorem a_exStart {T f e : Nat} {σ : gS} (hf : f < 8) (he : e < 3) : fn_X0_extentStart T (nI f) (nI e) σ = some (σ 10 (3 * f + e), σ) := by
  unfold fn_X0_extentStart
  rw [xi, g1 (by omega) (by omega), g2 (by omega)]
theorem rr_f {T f : Nat} {σ τ : gS} (h : RR T σ τ) (hf : f < 8) : ∃ (E : Nat) (st sz : Nat → Nat), rE T σ τ f E st sz := h.2.2.2.2.2.2.2 f hf
theorem rr_j {T j : Nat} {σ τ : gS} (h : RR T σ τ) (hj : j < 24) : σ 10 j = τ 7 j ∧ σ 11 j = τ 8 j := h.2.2.2.2.2.2.1 j hj
theorem blkLoop {T f i E : Nat} {st sz : Nat → Nat} {σ τ : gS} (hR : RR T σ τ) (hf : f < 8) (hE : rE T σ τ f E st sz) (hi : i < sumN sz E) : ∀ (k e mA mB : Nat), e + k = E → k < mA → k < mB → sumN sz e ≤ i → ∃ b, b < 3 * T ∧ fn_X0_blockOf_L5 T mA (nI f) (nI i) (nI (sumN sz e)) (nI e) σ = some (nI b, σ) ∧ fn_X3_block_L20 T mB (nI f) (nI (i - sumN sz e)) (nI e) τ = some (nI b, τ) := by
  obtain ⟨h3, h9, t9, hx, h8, h63, _⟩ := hE
  have hT := rr_T hR
  intro k
  induction k with
  | zero =>
    intro e mA mB h1 h2 h4 h5
    rw [show e = E by omega] at h5
    omega
  | succ k ih =>
    intro e mA mB h1 h2 h4 h5
    obtain ⟨mA, rfl⟩ : ∃ n', mA = n' + 1 := ⟨mA - 1, by omega⟩
    obtain ⟨mB, rfl⟩ : ∃ n', mB = n' + 1 := ⟨mB - 1, by omega⟩
    have he : e < E := by omega
    obtain ⟨x1, x2, x3, x4⟩ := hx e he
    have hj := rr_j hR (show 3 * f + e < 24 by omega)
    have y1 : τ 7 (3 * f + e) = nI (st e) := by rw [← hj.1]; exact x1
    have y2 : τ 8 (3 * f + e) = nI (sz e) := by rw [← hj.2]; exact x2
    have hsum : sumN sz (e + 1) = sumN sz e + sz e := rfl
    have hm := sumN_mono sz (e + 1) E (by omega)
    by_cases hc : sz e ≤ i - sumN sz e
    · obtain ⟨b, hb, f1, f2⟩ := ih (e + 1) mA mB (by omega) (by omega) (by omega) (by omega)
      refine ⟨b, hb, ?_, ?_⟩
      · rw [fn_X0_blockOf_L5, g1 hf (by omega), g2 (by omega), h9, if_neg (nI_ge he (by omega)), a_exSize hf (by omega), gob, x2, o_sub h5, if_pos (nI_le hc (by omega)), a_exSize hf (by omega), gob, x2, nI_add, li1, nI_add]
        exact f1
      · rw [fn_X3_block_L20, g1 hf (by omega), g2 (by omega), t9, if_neg (nI_ge he (by omega)), xj, g1 (by omega) (by omega), g2 (by omega), y2, if_pos (nI_le hc (by omega)), g1 (by omega) (by omega), o_sub hc, li1, nI_add, show i - sumN sz e - sz e = i - sumN sz (e + 1) by omega]
        exact f2
    · refine ⟨st e + (i - sumN sz e), by omega, ?_, ?_⟩
      · rw [fn_X0_blockOf_L5, g1 hf (by omega), g2 (by omega), h9, if_neg (nI_ge he (by omega)), a_exSize hf (by omega), gob, x2, o_sub h5, if_neg (nI_ge (by omega) (by omega)), a_exStart hf (by omega), gob, x1, nI_add]
      · rw [fn_X3_block_L20, g1 hf (by omega), g2 (by omega), t9, if_neg (nI_ge he (by omega)), xj, g1 (by omega) (by omega), g2 (by omega), y2, if_neg (nI_ge (by omega) (by omega)), g1 (by omega) (by omega), y1, nI_add]
theorem blkNone {T f i E : Nat} {st sz : Nat → Nat} {σ τ : gS} (hR : RR T σ τ) (hf : f < 8) (hE : rE T σ τ f E st sz) (hi : sumN sz E ≤ i) (hi2 : i < 2147483648) : ∀ (k e mB : Nat), e + k = E → k < mB → fn_X3_block_L20 T mB (nI f) (nI (i - sumN sz e)) (nI e) τ = some (-1, τ) := by
  obtain ⟨h3, h9, t9, hx, h8, h63, _⟩ := hE
  intro k
  induction k with
  | zero =>
    intro e mB h1 h4
    obtain ⟨mB, rfl⟩ : ∃ n', mB = n' + 1 := ⟨mB - 1, by omega⟩
    rw [fn_X3_block_L20, g1 hf (by omega), g2 (by omega), t9, if_pos (nI_le (by omega) (by omega))]
  | succ k ih =>
    intro e mB h1 h4
    obtain ⟨mB, rfl⟩ : ∃ n', mB = n' + 1 := ⟨mB - 1, by omega⟩
    have he : e < E := by omega
    obtain ⟨x1, x2, x3, x4⟩ := hx e he
    have hj := rr_j hR (show 3 * f + e < 24 by omega)
    have y2 : τ 8 (3 * f + e) = nI (sz e) := by rw [← hj.2]; exact x2
    have hsum : sumN sz (e + 1) = sumN sz e + sz e := rfl
    have hm := sumN_mono sz (e + 1) E (by omega)
    have hc : sz e ≤ i - sumN sz e := by omega
    rw [fn_X3_block_L20, g1 hf (by omega), g2 (by omega), t9, if_neg (nI_ge he (by omega)), xj, g1 (by omega) (by omega), g2 (by omega), y2, if_pos (nI_le hc (by omega)), g1 (by omega) (by omega), o_sub hc, li1, nI_add, show i - sumN sz e - sz e = i - sumN sz (e + 1) by omega]
    exact ih (e + 1) mB (by omega) (by omega)
/-- the block of a file's cell: none on both sides, or the same -/
theorem blk {T : Nat} {σ τ : gS} (hR : RR T σ τ) (x y : Int32) : (fn_X2_blockAt T x y σ = some (-1, σ) ∧ fn_X3_block T x y τ = some (-1, τ)) ∨ ∃ b, b < 3 * T ∧ fn_X2_blockAt T x y σ = some (nI b, σ) ∧ fn_X3_block T x y τ = some (nI b, τ) := by
  have hT := rr_T hR
  rcases ix x 8 (by omega) with ho | ⟨f, hf, rfl⟩
  · left
    constructor
    · unfold fn_X2_blockAt; rw [a_isFile_no ho, gob, if_pos rfl]
    · unfold fn_X3_block; rw [li8, b_in_no ho, gob, if_pos rfl]
  · obtain ⟨E, st, sz, hE⟩ := rr_f hR hf
    by_cases hy : y < 0
    · left
      constructor
      · unfold fn_X2_blockAt; rw [a_isFile_in hf, gob, if_neg e10, if_pos hy]
      · unfold fn_X3_block
        rw [li8, b_in_in hf (by omega), gob, if_neg e10, if_neg (fun q => ?_)]
        rw [Int32.le_iff_toInt_le] at q
        rw [Int32.lt_iff_toInt_lt] at hy
        omega
    · obtain ⟨i, hi, rfl⟩ := nI_of hy
      have h0 : (0 : Int32) ≤ nI i := nI_pos' hi
      have hlen : fn_X0_lengthOf T (nI f) σ = some (nI (sumN sz E), σ) := by
        unfold fn_X0_lengthOf
        rw [g1 hf (by omega), g2 (by omega), hE.2.2.2.2.1]
      have h63 := hE.2.2.2.2.2.1
      have hE3 := hE.1
      by_cases hl : i < sumN sz E
      · right
        obtain ⟨b, hb, f1, f2⟩ := blkLoop hR hf hE hl E 0 gs_fu gs_fu (by omega) (by rw [fu_e]; omega) (by rw [fu_e]; omega) (Nat.zero_le _)
        refine ⟨b, hb, ?_, ?_⟩
        · unfold fn_X2_blockAt
          rw [a_isFile_in hf, gob, if_neg e10, if_neg hy, hlen, gob, if_pos (nI_lt hl (by omega)), show fn_X0_blockOf T (nI f) (nI i) σ = some (nI b, σ) from f1, gob]
        · unfold fn_X3_block
          rw [li8, b_in_in hf (by omega), gob, if_neg e10, if_pos h0]
          exact f2
      · left
        constructor
        · unfold fn_X2_blockAt
          rw [a_isFile_in hf, gob, if_neg e10, if_neg hy, hlen, gob, if_neg (nI_nlt (by omega) hi)]
        · unfold fn_X3_block
          rw [li8, b_in_in hf (by omega), gob, if_neg e10, if_pos h0]
          exact blkNone hR hf hE (by omega) hi E 0 gs_fu (by omega) (by rw [fu_e]; omega)
theorem ne_m1 {b : Nat} (h : b < 2147483648) : ¬ nI b = -1 := by
  intro z
  have h9 := congrArg Int32.toInt z
  rw [nI_toInt h] at h9
  have h8 : (-1 : Int32).toInt = -1 := by decide
  rw [h8] at h9
  omega
theorem d3 {b : Nat} (h : b < 63) : (nI b / 3 : Int32) = nI (b / 3) := by rw [li3, o_div (by omega) (by omega) (by omega)]
theorem m3 {b : Nat} (h : b < 63) : (nI b - nI (b / 3) * 3 : Int32) = nI (b % 3) := by
  rw [li3, pk_mul, o_sub (by omega), show b - b / 3 * 3 = b % 3 by omega]
theorem a_dueWord {T s c : Nat} {σ : gS} (hT : T ≤ 21) (hs : s < T) (hc : c < 4) : fn_X1_dueWord T (nI s) (nI c) σ = some (σ 1 (4 * s + c), σ) := by
  unfold fn_X1_dueWord
  rw [a_place, gob, g1 (by omega) (by omega), g2 (by omega)]
theorem x43 {s c : Nat} : (4 * nI s + nI c : Int32) = nI (4 * s + c) := by rw [li4, pk_mul, nI_add]
theorem wr_bd {τ : gS} {i : Nat} (h : τ 3 i = 0) : nBd τ i = nWr τ i := by
  unfold nBd nWr; rw [if_pos h, if_pos h]
theorem sim_read {T : Nat} (_ : T = 7 ∨ T = 14 ∨ T = 21) : sm2 (fn_X2_read T) (fn_X3_read T) (RR T) := by
  intro σ τ x y hR
  have hT := rr_T hR
  rcases blk hR x y with ⟨e1, e2⟩ | ⟨b, hb, e1, e2⟩
  · refine ⟨-1000000000000, σ, τ, ?_, ?_, hR⟩
    · unfold fn_X2_read; rw [e1, gob, if_pos rfl]
    · unfold fn_X3_read; rw [e2, gob, if_neg (by decide)]
  · have hs : b / 3 < T := by omega
    have hc : b % 3 < 4 := by omega
    have hi : 4 * (b / 3) + b % 3 < 4 * T := by omega
    have hw := rr_w hR hi
    have h0 : (0 : Int32) ≤ nI b := nI_pos' (by omega)
    unfold fn_X2_read fn_X3_read
    rw [e1, e2]
    simp only [gob]
    rw [if_neg (ne_m1 (by omega)), if_pos h0, d3 (by omega), m3 (by omega), x43]
    rw [a_isBad hT.2 hs hc (rr_z3 hR), rr_bd hR hi]
    simp (disch := omega) only [gob, g1, g2, b_wrong, b_broken hT.2 hs, a_broken hR hs, glt]
    by_cases h3 : τ 3 (4 * (b / 3) + b % 3) = 0
    · rw [wr_bd h3]
      simp only [if_pos h3]
      rcases nWr_01 τ (4 * (b / 3) + b % 3) with q | q
      · refine ⟨(τ 1 (4 * (b / 3) + b % 3)).toInt64, σ, τ, ?_, ?_, hR⟩
        · rw [q, if_pos (show nI 0 = 0 from rfl), a_mend hT.2 hs hc, rr_wr hR hi, q, if_pos rfl, gob, a_dueWord hT.2 hs hc, gob, hw.1]
        · rw [q, if_pos (show nI 0 = 0 from rfl), if_pos (show nI 0 = 0 from rfl)]
      · by_cases hB : nB τ (b / 3) < 2
        · refine ⟨(τ 1 (4 * (b / 3) + b % 3)).toInt64, _, _, ?_, ?_, rr_cell (i := 4 * (b / 3) + b % 3) (v := σ 1 (4 * (b / 3) + b % 3)) (w := τ 1 (4 * (b / 3) + b % 3)) hR hw.1⟩
          · rw [q, if_neg e10n, if_pos hB, if_pos (show nI 0 = 0 from rfl), a_mend hT.2 hs hc, rr_wr hR hi, q, if_neg (show ¬ 1 = 0 by decide), gob, a_dueWord hT.2 hs hc, gob, show gs_st σ 2 (upd (σ 2) (4 * (b / 3) + b % 3) (σ 1 (4 * (b / 3) + b % 3))) 1 (4 * (b / 3) + b % 3) = σ 1 (4 * (b / 3) + b % 3) from rfl, hw.1]
          · rw [q, if_neg e10n, if_pos hB, if_pos (show nI 0 = 0 from rfl), if_neg e10n]; rfl
        · refine ⟨-3000000000000, σ, τ, ?_, ?_, hR⟩
          · rw [q, if_neg e10n, if_neg hB, if_neg e10n]
          · rw [q, if_neg e10n, if_neg hB, if_neg e10n]
    · have hbd : nBd τ (4 * (b / 3) + b % 3) = 1 := by unfold nBd; rw [if_neg h3]
      have hwr : nWr τ (4 * (b / 3) + b % 3) = 0 := by unfold nWr; rw [if_neg h3]
      simp only [if_neg h3, hbd, hwr, if_neg e10n]
      by_cases hB : nB τ (b / 3) < 2
      · refine ⟨(τ 1 (4 * (b / 3) + b % 3)).toInt64, σ, τ, ?_, ?_, hR⟩
        · rw [if_pos hB, if_pos (show nI 0 = 0 from rfl), a_mend hT.2 hs hc, rr_wr hR hi, hwr, if_pos rfl, gob, a_dueWord hT.2 hs hc, gob, hw.1]
        · rw [if_pos hB, if_pos (show nI 0 = 0 from rfl), if_pos (show nI 0 = 0 from rfl)]
      · refine ⟨-3000000000000, σ, τ, ?_, ?_, hR⟩
        · rw [if_neg hB, if_neg e10n]
        · rw [if_neg hB, if_neg e10n]
/-! write -/
def cw (σ : gS) (i : Nat) (x : Int32) : gS := if σ 3 i = 0 then gs_st (gs_st σ 1 (upd (σ 1) i (σ 1 i ^^^ x))) 2 (upd (σ 2) i (σ 1 i ^^^ x)) else gs_st σ 1 (upd (σ 1) i (σ 1 i ^^^ x))
def pt (τ : gS) (i : Nat) (v : Int32) : gS := if τ 3 i = 0 then gs_st (gs_st τ 1 (upd (τ 1) i v)) 2 (upd (τ 2) i v) else gs_st τ 1 (upd (τ 1) i v)
theorem cw_pt (σ : gS) (i : Nat) (x : Int32) : cw σ i x = pt σ i (σ 1 i ^^^ x) := rfl
theorem pt_1 (τ : gS) (i : Nat) (v : Int32) (j : Nat) : pt τ i v 1 j = if j = i then v else τ 1 j := by
  unfold pt
  by_cases h3 : τ 3 i = 0
  · rw [if_pos h3]; rfl
  · rw [if_neg h3]; rfl
theorem pt_2 (τ : gS) (i : Nat) (v : Int32) (j : Nat) : pt τ i v 2 j = if τ 3 i = 0 then (if j = i then v else τ 2 j) else τ 2 j := by
  unfold pt
  by_cases h3 : τ 3 i = 0
  · rw [if_pos h3, if_pos h3]; rfl
  · rw [if_neg h3, if_neg h3]; rfl
theorem pt_k (τ : gS) (i : Nat) (v : Int32) {k : Nat} (h1 : k ≠ 1) (h2 : k ≠ 2) : pt τ i v k = τ k := by
  unfold pt
  by_cases h3 : τ 3 i = 0
  · rw [if_pos h3, st_n h2, st_n h1]
  · rw [if_neg h3, st_n h1]
theorem a_changeWord {T s c : Nat} {σ : gS} {x : Int32} (hT : T ≤ 21) (hs : s < T) (hc : c < 4) : fn_X1_changeWord T (nI s) (nI c) x σ = some (0, cw σ (4 * s + c) x) := by
  unfold fn_X1_changeWord cw
  rw [a_place, gob]
  simp (disch := omega) only [g1, g2, glt]
  rw [show gs_st σ 1 (upd (σ 1) (4 * s + c) (σ 1 (4 * s + c) ^^^ x)) 3 = σ 3 from rfl]
  by_cases h3 : σ 3 (4 * s + c) = 0
  · rw [if_pos h3, if_pos h3, show gs_st σ 1 (upd (σ 1) (4 * s + c) (σ 1 (4 * s + c) ^^^ x)) 1 (4 * s + c) = σ 1 (4 * s + c) ^^^ x from pk_us]; rfl
  · rw [if_neg h3, if_neg h3]
theorem b_put {T i : Nat} {τ : gS} {v : Int32} (hi : i < 84) : fn_X3_put T (nI i) v τ = some (0, pt τ i v) := by
  unfold fn_X3_put pt
  simp (disch := omega) only [g1, g2, glt]
  rw [show gs_st τ 1 (upd (τ 1) i v) 3 = τ 3 from rfl]
  by_cases h3 : τ 3 i = 0
  · rw [if_pos h3, if_pos h3]; rfl
  · rw [if_neg h3, if_neg h3]
theorem xa (a b : Int32) : a ^^^ (a ^^^ b) = b := by
  apply bx_ext
  intro i hi
  simp only [Int32.toBitVec_xor, BitVec.getLsbD_xor]
  cases a.toBitVec.getLsbD i <;> cases b.toBitVec.getLsbD i <;> rfl
theorem xb0 (a b c v : Int32) : ((a ^^^ b) ^^^ c) ^^^ (a ^^^ v) = (v ^^^ b) ^^^ c := by
  apply bx_ext
  intro i hi
  simp only [Int32.toBitVec_xor, BitVec.getLsbD_xor]
  cases a.toBitVec.getLsbD i <;> cases b.toBitVec.getLsbD i <;> cases c.toBitVec.getLsbD i <;> cases v.toBitVec.getLsbD i <;> rfl
theorem xb1 (a b c v : Int32) : ((a ^^^ b) ^^^ c) ^^^ (b ^^^ v) = (a ^^^ v) ^^^ c := by
  apply bx_ext
  intro i hi
  simp only [Int32.toBitVec_xor, BitVec.getLsbD_xor]
  cases a.toBitVec.getLsbD i <;> cases b.toBitVec.getLsbD i <;> cases c.toBitVec.getLsbD i <;> cases v.toBitVec.getLsbD i <;> rfl
theorem xb2 (a b c v : Int32) : ((a ^^^ b) ^^^ c) ^^^ (c ^^^ v) = (a ^^^ b) ^^^ v := by
  apply bx_ext
  intro i hi
  simp only [Int32.toBitVec_xor, BitVec.getLsbD_xor]
  cases a.toBitVec.getLsbD i <;> cases b.toBitVec.getLsbD i <;> cases c.toBitVec.getLsbD i <;> cases v.toBitVec.getLsbD i <;> rfl
theorem setBoth {T s c : Nat} {σ τ : gS} {v : Int32} (hR : RR T σ τ) (hs : s < T) (hc : c < 3) : ∃ σ1 τ1, fn_X1_setBlock T (nI s) (nI c) v σ = some (0, σ1) ∧ fn_X3_put T (nI (4 * s + 3)) (((pt τ (4 * s + c) v) 1 (4 * s) ^^^ (pt τ (4 * s + c) v) 1 (4 * s + 1)) ^^^ (pt τ (4 * s + c) v) 1 (4 * s + 2)) (pt τ (4 * s + c) v) = some (0, τ1) ∧ RR T σ1 τ1 := by
  have hT := rr_T hR
  have hi : 4 * s + c < 4 * T := by omega
  have hw := rr_w hR hi
  have hx := hR.2.2.1 s hs
  obtain ⟨w, ew⟩ : ∃ w, w = ((pt τ (4 * s + c) v) 1 (4 * s) ^^^ (pt τ (4 * s + c) v) 1 (4 * s + 1)) ^^^ (pt τ (4 * s + c) v) 1 (4 * s + 2) := ⟨_, rfl⟩
  have ew2 : σ 1 (4 * s + 3) ^^^ (σ 1 (4 * s + c) ^^^ v) = w := by
    rw [ew, pt_1, pt_1, pt_1, hw.1, (rr_w hR (show 4 * s + 3 < 4 * T by omega)).1, hx]
    rcases (show c = 0 ∨ c = 1 ∨ c = 2 by omega) with rfl | rfl | rfl
    · rw [if_pos (by omega), if_neg (by omega), if_neg (by omega)]; exact xb0 _ _ _ _
    · rw [if_neg (by omega), if_pos (by omega), if_neg (by omega)]; exact xb1 _ _ _ _
    · rw [if_neg (by omega), if_neg (by omega), if_pos (by omega)]; exact xb2 _ _ _ _
  have es : fn_X1_setBlock T (nI s) (nI c) v σ = some (0, pt (pt σ (4 * s + c) v) (4 * s + 3) w) := by
    unfold fn_X1_setBlock
    rw [a_dueWord hT.2 hs (by omega), gob, a_changeWord hT.2 hs (by omega), gob, li3, a_changeWord hT.2 hs (by omega), gob, cw_pt, cw_pt, xa, pt_1, if_neg (by omega), ew2]
  refine ⟨_, _, es, b_put (by omega), ?_⟩
  rw [← ew]
  refine rr_keep hR (fun k h1 h2 => by rw [pt_k _ _ _ h1 h2, pt_k _ _ _ h1 h2]) (fun k h1 h2 => by rw [pt_k _ _ _ h1 h2, pt_k _ _ _ h1 h2]) (fun j hj => ⟨?_, ?_⟩) (fun s' hs' => ?_)
  · rw [pt_1, pt_1, pt_1, pt_1, (rr_w hR hj).1]
  · rw [pt_2, pt_2, pt_2, pt_2, pt_k _ _ _ (show 3 ≠ 1 by decide) (show 3 ≠ 2 by decide), pt_k _ _ _ (show 3 ≠ 1 by decide) (show 3 ≠ 2 by decide), hw.2.2, (rr_w hR (show 4 * s + 3 < 4 * T by omega)).2.2, (rr_w hR hj).2.1]
  · rw [pt_1 _ (4 * s + 3), pt_1 _ (4 * s + 3), pt_1 _ (4 * s + 3), pt_1 _ (4 * s + 3)]
    by_cases hss : s' = s
    · subst hss
      rw [if_pos rfl, if_neg (by omega), if_neg (by omega), if_neg (by omega)]
      exact ew
    · rw [if_neg (by omega), if_neg (by omega), if_neg (by omega), if_neg (by omega), pt_1, pt_1, pt_1, pt_1, if_neg (by omega), if_neg (by omega), if_neg (by omega), if_neg (by omega)]
      exact hR.2.2.1 s' hs'
theorem crash (T : Nat) (x : Int32) : ∃ q : Int32, (∀ σ, fn_X2_isCrash T x σ = some (q, σ)) ∧ (∀ τ, fn_X3_in T x 4 τ = some (q, τ)) := by
  by_cases h0 : x < 0
  · refine ⟨0, fun σ => ?_, fun τ => ?_⟩
    · unfold fn_X2_isCrash; rw [if_pos h0]
    · unfold fn_X3_in; rw [if_pos h0]
  · have e3 : (3 : Int32).toInt = 3 := by decide
    have e4 : (4 : Int32).toInt = 4 := by decide
    by_cases h3 : 3 < x
    · have h4 : 4 ≤ x := by
        rw [Int32.lt_iff_toInt_lt, e3] at h3
        rw [Int32.le_iff_toInt_le, e4]
        omega
      refine ⟨0, fun σ => ?_, fun τ => ?_⟩
      · unfold fn_X2_isCrash; rw [if_neg h0, if_pos h3]
      · unfold fn_X3_in; rw [if_neg h0, if_pos h4]
    · have h4 : ¬ 4 ≤ x := by
        rw [Int32.lt_iff_toInt_lt, e3] at h3
        rw [Int32.le_iff_toInt_le, e4]
        omega
      refine ⟨1, fun σ => ?_, fun τ => ?_⟩
      · unfold fn_X2_isCrash; rw [if_neg h0, if_neg h3]
      · unfold fn_X3_in; rw [if_neg h0, if_neg h4]
theorem sim_write {T : Nat} (_ : T = 7 ∨ T = 14 ∨ T = 21) : sm4 (fn_X2_write T) (fn_X3_write T) (RR T) := by
  intro σ τ x y v u hR
  have hT := rr_T hR
  rcases blk hR x y with ⟨e1, e2⟩ | ⟨b, hb, e1, e2⟩
  · refine ⟨-1, σ, τ, ?_, ?_, hR⟩
    · unfold fn_X2_write; rw [e1, gob, if_pos rfl]
    · unfold fn_X3_write; rw [e2, gob, if_neg (by decide)]
  · have hs : b / 3 < T := by omega
    have hc3 : b % 3 < 3 := by omega
    have hc : b % 3 < 4 := by omega
    have hi : 4 * (b / 3) + b % 3 < 4 * T := by omega
    have h0 : (0 : Int32) ≤ nI b := nI_pos' (by omega)
    obtain ⟨q, cA, cB⟩ := crash T u
    unfold fn_X2_write fn_X3_write
    rw [e1, e2]
    simp only [gob]
    rw [if_neg (ne_m1 (by omega)), if_pos h0, d3 (by omega), m3 (by omega), x43, a_broken hR hs, b_broken hT.2 hs]
    simp only [gob]
    by_cases hB : nB τ (b / 3) < 2
    · obtain ⟨r, σ1, τ1, f1, f2, hR1, hr, hk⟩ := mendBoth hR hs hB
      have hw := rr_w hR1 hi
      simp only [if_pos hB, f1, f2, gob, a_isLost hT.2 hs hc (rr_z3 hR1), hw.2.2]
      rw [if_pos (show nI 0 = 0 from rfl), if_pos (show nI 0 = 0 from rfl)]
      obtain ⟨σ2, τ2, g1', g2', hR2⟩ := setBoth (v := v) hR1 hs hc3
      have hput : fn_X3_put T (nI (4 * (b / 3) + b % 3)) v τ1 = some (0, pt τ1 (4 * (b / 3) + b % 3) v) := b_put (by omega)
      have x1 : (4 * nI (b / 3) : Int32) = nI (4 * (b / 3)) := by rw [li4, pk_mul]
      have x2 : (nI (4 * (b / 3)) + 1 : Int32) = nI (4 * (b / 3) + 1) := by rw [li1, nI_add]
      have x3 : (nI (4 * (b / 3)) + 2 : Int32) = nI (4 * (b / 3) + 2) := by rw [li2, nI_add]
      have x4 : (nI (4 * (b / 3)) + 3 : Int32) = nI (4 * (b / 3) + 3) := by rw [li3, nI_add]
      simp (disch := omega) only [hput, gob, x1, x2, x3, x4, g1, g2, g2', fn_X2_keepsOldValue, cB]
      by_cases u0 : u = 0
      · refine ⟨if q = 0 then 0 else -4, σ1, τ1, ?_, ?_, hR1⟩
        · rw [if_pos u0, gob, if_neg e10, cA, gob]; split <;> rfl
        · rw [if_pos u0]; split <;> rfl
      · by_cases u1 : u = 1
        · refine ⟨if q = 0 then 0 else -4, σ1, τ1, ?_, ?_, hR1⟩
          · rw [if_neg u0, if_pos u1, gob, if_neg e10, cA, gob]; split <;> rfl
          · rw [if_neg u0, if_pos u1]; split <;> rfl
        · by_cases u2 : u = 2
          · by_cases h3 : τ1 3 (4 * (b / 3) + b % 3) = 0
            · refine ⟨if q = 0 then 0 else -4, σ2, τ2, ?_, ?_, hR2⟩
              · rw [if_neg u0, if_neg u1, if_pos u2, if_pos h3, gob, if_pos rfl, g1', gob, cA, gob]; split <;> rfl
              · rw [if_neg u0, if_neg u1, if_pos u2, if_pos h3]; split <;> rfl
            · refine ⟨if q = 0 then 0 else -4, σ1, τ1, ?_, ?_, hR1⟩
              · rw [if_neg u0, if_neg u1, if_pos u2, if_neg h3, gob, if_neg e10, cA, gob]; split <;> rfl
              · rw [if_neg u0, if_neg u1, if_pos u2, if_neg h3]; split <;> rfl
          · refine ⟨if q = 0 then 0 else -4, σ2, τ2, ?_, ?_, hR2⟩
            · rw [if_neg u0, if_neg u1, if_neg u2, gob, if_pos rfl, g1', gob, cA, gob]; split <;> rfl
            · rw [if_neg u0, if_neg u1, if_neg u2]; split <;> rfl
    · refine ⟨-3, σ, τ, ?_, ?_, hR⟩
      · rw [if_neg hB, if_neg e10n]
      · rw [if_neg hB, if_neg e10n]
