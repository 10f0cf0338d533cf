/-! PURE ROWS: numbers (own work) -/
theorem g1 {β : Type} {j n : Nat} {x : Option β} (h : j < n) (hn : n < 2147483648) : gs_gd (nI j) n x = x := gs_gd_s (vp_in_nI h hn)
theorem g2 {n : Nat} (h : n < 2147483648) : (nI n).toNatClampNeg = n := nI_clamp h
theorem gob {α β : Type} {g : α → gS → Option β} {a : α} {u : gS} : gs_ob (some (a, u)) g = g a u := rfl
theorem glt {β : Type} {u : gS} {g : gS → Option β} : gs_lt u g = g u := rfl
theorem c_le {a b : Nat} (ha : a < 2147483648) (hb : b < 2147483648) : (nI a ≤ nI b) = (a ≤ b) := propext (nI_leI ha hb)
theorem c_lt {a b : Nat} (ha : a < 2147483648) (hb : b < 2147483648) : (nI a < nI b) = (a < b) := propext (nI_ltI ha hb)
theorem c_eq {a b : Nat} (ha : a < 2147483648) (hb : b < 2147483648) : (nI a = nI b) = (a = b) := propext (nI_eq ha hb)
theorem o_sub {a b : Nat} (h : b ≤ a) : nI a - nI b = nI (a - b) := pk_sub h
theorem o_div {a d : Nat} (ha : a < 2147483648) (h0 : 0 < d) (hd : d < 2147483648) : nI a / nI d = nI (a / d) := pk_div ha h0 hd
theorem li0 : (0 : Int32) = nI 0 := rfl
theorem li1 : (1 : Int32) = nI 1 := rfl
theorem li2 : (2 : Int32) = nI 2 := rfl
theorem li3 : (3 : Int32) = nI 3 := rfl
theorem li4 : (4 : Int32) = nI 4 := rfl
theorem li5 : (5 : Int32) = nI 5 := rfl
theorem li6 : (6 : Int32) = nI 6 := rfl
theorem li7 : (7 : Int32) = nI 7 := rfl
theorem li8 : (8 : Int32) = nI 8 := rfl
theorem li21 : (21 : Int32) = nI 21 := rfl
theorem li63 : (63 : Int32) = nI 63 := rfl
theorem bzn0 {β : Type} {x : Option β} : gs_bz (nI 0) x = x := gs_bz_0
theorem bzn1 {β : Type} {x : Option β} : gs_bz (nI 1) x = x := gs_bz_1
theorem nr0 : vp_nar .boolean (nI 0) = nI 0 := by decide
theorem nr1 : vp_nar .boolean (nI 1) = nI 1 := by decide
theorem st_s {σ : gS} {k : Nat} {f : Nat → Int32} : gs_st σ k f k = f := by
  show cond (Nat.beq k k) f (σ k) = f
  rw [show Nat.beq k k = true from Nat.beq_refl k]; rfl
theorem st_n {σ : gS} {k j : Nat} {f : Nat → Int32} (h : j ≠ k) : gs_st σ k f j = σ j := by
  show cond (Nat.beq j k) f (σ j) = σ j
  cases e : Nat.beq j k with
  | true => exact absurd (Nat.eq_of_beq_eq_true e) h
  | false => rfl
theorem fu_e : gs_fu = 200 := rfl
/-- a sum of k numbers from i on -/
def cS (p : Nat → Nat) : Nat → Nat → Nat
  | _, 0 => 0
  | i, k + 1 => p i + cS p (i + 1) k
theorem cS_congr {p q : Nat → Nat} : ∀ (k i : Nat), (∀ j, i ≤ j → j < i + k → p j = q j) → cS p i k = cS q i k := by
  intro k
  induction k with
  | zero => intro i _; rfl
  | succ k ih =>
    intro i h
    show p i + cS p (i + 1) k = q i + cS q (i + 1) k
    rw [h i (Nat.le_refl i) (by omega), ih (i + 1) (fun j h1 h2 => h j (by omega) (by omega))]
theorem cS_shift {p : Nat → Nat} {m : Nat} : ∀ (k i : Nat), cS (fun c => p (m + c)) i k = cS p (m + i) k := by
  intro k
  induction k with
  | zero => intro i; rfl
  | succ k ih =>
    intro i
    show p (m + i) + cS (fun c => p (m + c)) (i + 1) k = p (m + i) + cS p (m + i + 1) k
    rw [ih (i + 1)]; rfl
theorem cS_app {p : Nat → Nat} : ∀ (k l i : Nat), cS p i (k + l) = cS p i k + cS p (i + k) l := by
  intro k
  induction k with
  | zero => intro l i; rw [Nat.zero_add]; show _ = 0 + cS p (i + 0) l; rw [Nat.zero_add, Nat.add_zero]
  | succ k ih =>
    intro l i
    rw [show k + 1 + l = (k + l) + 1 by omega]
    show p i + cS p (i + 1) (k + l) = p i + cS p (i + 1) k + cS p (i + (k + 1)) l
    rw [ih l (i + 1), show i + 1 + k = i + (k + 1) by omega]; omega
theorem cS_le {p : Nat → Nat} (hp : ∀ j, p j ≤ 1) : ∀ (k i : Nat), cS p i k ≤ k := by
  intro k
  induction k with
  | zero => intro i; exact Nat.le_refl 0
  | succ k ih =>
    intro i
    show p i + cS p (i + 1) k ≤ k + 1
    have h1 := hp i
    have h2 := ih (i + 1)
    omega
/-- a loop that counts -/
theorem lp_cnt {β : Type} (F : Nat → Nat → Nat → Option β) (K : Nat → Option β) (p : Nat → Nat) (N : Nat) (hs : ∀ n i a, i < N → F (n + 1) i a = F n (i + 1) (a + p i)) (he : ∀ n a, F (n + 1) N a = K a) : ∀ (k n i a : Nat), i + k = N → k < n → F n i a = K (a + cS p i k) := by
  intro k
  induction k with
  | zero =>
    intro n i a h1 h2
    obtain ⟨n, rfl⟩ : ∃ n', n = n' + 1 := ⟨n - 1, by omega⟩
    rw [show i = N by omega, he]; rfl
  | succ k ih =>
    intro n i a h1 h2
    obtain ⟨n, rfl⟩ : ∃ n', n = n' + 1 := ⟨n - 1, by omega⟩
    rw [hs n i a (by omega), ih n (i + 1) (a + p i) (by omega) (by omega)]
    show K (a + p i + cS p (i + 1) k) = K (a + (p i + cS p (i + 1) k))
    rw [Nat.add_assoc]
/-! columns: lost, wrong, bad (1 word, 2 cell, 3 lost on both sides) -/
def qL (σ : gS) (i : Nat) : Prop := ¬ σ 3 i = 0
def qW (σ : gS) (i : Nat) : Prop := σ 3 i = 0 ∧ ¬ σ 2 i = σ 1 i
def nBd (σ : gS) (i : Nat) : Nat := if σ 3 i = 0 then (if σ 2 i = σ 1 i then 0 else 1) else 1
def nWr (σ : gS) (i : Nat) : Nat := if σ 3 i = 0 then (if σ 2 i = σ 1 i then 0 else 1) else 0
def nB (σ : gS) (s : Nat) : Nat := cS (nBd σ) (4 * s) 4
def zB3 (T : Nat) (σ : gS) : Prop := ∀ i, i < 4 * T → σ 3 i = nI 0 ∨ σ 3 i = nI 1
theorem a_place {T s c : Nat} {σ : gS} : fn_X1_place T (nI s) (nI c) σ = some (nI (4 * s + c), σ) := by
  simp only [fn_X1_place, li4, pk_mul, nI_add, Nat.mul_comm]
theorem a_isLost {T s c : Nat} {σ : gS} (hT : T ≤ 21) (hs : s < T) (hc : c < 4) (hz : zB3 T σ) : fn_X1_isLost T (nI s) (nI c) σ = some (σ 3 (4 * s + c), σ) := by
  simp (disch := omega) only [fn_X1_isLost, a_place, gob, g1, g2]
  rcases hz (4 * s + c) (by omega) with h | h <;> rw [h]
  · exact bzn0
  · exact bzn1
theorem a_isWrong {T s c : Nat} {σ : gS} (hT : T ≤ 21) (hs : s < T) (hc : c < 4) : fn_X1_isWrong T (nI s) (nI c) σ = some (nI (nWr σ (4 * s + c)), σ) := by
  simp (disch := omega) only [fn_X1_isWrong, a_place, gob, g1, g2]
  unfold nWr
  by_cases h3 : σ 3 (4 * s + c) = 0
  · rw [if_pos h3, if_pos h3]
    by_cases h2 : σ 2 (4 * s + c) = σ 1 (4 * s + c)
    · rw [if_pos h2, if_pos h2]; rfl
    · rw [if_neg h2, if_neg h2]; rfl
  · rw [if_neg h3, if_neg h3]; rfl
theorem a_isBad {T s c : Nat} {σ : gS} (hT : T ≤ 21) (hs : s < T) (hc : c < 4) (hz : zB3 T σ) : fn_X1_isBad T (nI s) (nI c) σ = some (nI (nBd σ (4 * s + c)), σ) := by
  simp only [fn_X1_isBad, a_isLost hT hs hc hz, a_isWrong hT hs hc, gob]
  unfold nBd nWr
  by_cases h3 : σ 3 (4 * s + c) = 0
  · rw [if_pos h3, if_pos h3, if_pos h3]
    by_cases h2 : σ 2 (4 * s + c) = σ 1 (4 * s + c)
    · rw [if_pos h2]; rfl
    · rw [if_neg h2]; rfl
  · rw [if_neg h3, if_neg h3]; rfl
theorem nBd_01 (σ : gS) (i : Nat) : nBd σ i = 0 ∨ nBd σ i = 1 := by
  unfold nBd
  by_cases h3 : σ 3 i = 0
  · rw [if_pos h3]
    by_cases h2 : σ 2 i = σ 1 i
    · rw [if_pos h2]; exact Or.inl rfl
    · rw [if_neg h2]; exact Or.inr rfl
  · rw [if_neg h3]; exact Or.inr rfl
theorem nWr_01 (σ : gS) (i : Nat) : nWr σ i = 0 ∨ nWr σ i = 1 := by
  unfold nWr
  by_cases h3 : σ 3 i = 0
  · rw [if_pos h3]
    by_cases h2 : σ 2 i = σ 1 i
    · rw [if_pos h2]; exact Or.inl rfl
    · rw [if_neg h2]; exact Or.inr rfl
  · rw [if_neg h3]; exact Or.inl rfl
theorem a_isBroken {T s : Nat} {σ : gS} (hT : T ≤ 21) (hs : s < T) (hz : zB3 T σ) : fn_X1_isBroken T (nI s) σ = some (nI (if nB σ s < 2 then 0 else 1), σ) := by
  have h := lp_cnt (fun n i a => fn_X1_isBroken_L4 T n (nI s) (nI a) (nI i) σ) (fun a => if (nI a : Int32) < 2 then some ((0 : Int32), σ) else some ((1 : Int32), σ)) (fun c => nBd σ (4 * s + c)) 4 (fun n i a hi => ?_) (fun n a => ?_) 4 gs_fu 0 0 rfl (by rw [fu_e]; omega)
  · show fn_X1_isBroken_L4 T gs_fu (nI s) (nI 0) (nI 0) σ = _
    have h := h
    rw [h, cS_shift, Nat.zero_add, Nat.add_zero]
    have hb : nB σ s ≤ 4 := cS_le (fun j => by rcases nBd_01 σ j with q | q <;> omega) 4 _
    unfold nB at hb ⊢
    by_cases h2 : cS (nBd σ) (4 * s) 4 < 2
    · rw [if_pos h2, if_pos (by rw [li2, c_lt (by omega) (by omega)]; exact h2)]; rfl
    · rw [if_neg h2, if_neg (by rw [li2, c_lt (by omega) (by omega)]; exact h2)]; rfl
  · show fn_X1_isBroken_L4 T (n + 1) (nI s) (nI a) (nI i) σ = fn_X1_isBroken_L4 T n (nI s) (nI (a + nBd σ (4 * s + i))) (nI (i + 1)) σ
    rw [fn_X1_isBroken_L4]
    simp (disch := omega) only [a_isBad hT hs hi hz, gob, li4, li1, c_le, if_neg, nI_add]
    rcases nBd_01 σ (4 * s + i) with q | q <;> rw [q]
    · rfl
    · rfl
  · show fn_X1_isBroken_L4 T (n + 1) (nI s) (nI a) (nI 4) σ = _
    rw [fn_X1_isBroken_L4]
    simp (disch := omega) only [li4, c_le, if_pos]
theorem b_wrong {T i : Nat} {τ : gS} (hi : i < 84) : fn_X3_wrong T (nI i) τ = some (nI (nWr τ i), τ) := by
  simp (disch := omega) only [fn_X3_wrong, g1, g2]
  unfold nWr
  by_cases h3 : τ 3 i = 0
  · rw [if_pos h3, if_pos h3]
    by_cases h2 : τ 2 i = τ 1 i
    · rw [if_pos h2, if_pos h2]; rfl
    · rw [if_neg h2, if_neg h2]; rfl
  · rw [if_neg h3, if_neg h3]; rfl
theorem b_broken {T s : Nat} {τ : gS} (hT : T ≤ 21) (hs : s < T) : fn_X3_broken T (nI s) τ = some (nI (if nB τ s < 2 then 0 else 1), τ) := by
  have h := lp_cnt (fun n i a => fn_X3_broken_L6 T n (nI s) (nI a) (nI i) τ) (fun a => if (nI a : Int32) ≤ 1 then some ((0 : Int32), τ) else some ((1 : Int32), τ)) (nBd τ) (4 * s + 4) (fun n i a hi => ?_) (fun n a => ?_) 4 gs_fu (4 * s) 0 rfl (by rw [fu_e]; omega)
  · show fn_X3_broken_L6 T gs_fu (nI s) (nI 0) (4 * nI s) τ = _
    have h := h
    rw [li4, pk_mul, h, Nat.zero_add]
    have hb : nB τ s ≤ 4 := cS_le (fun j => by rcases nBd_01 τ j with q | q <;> omega) 4 _
    unfold nB at hb ⊢
    by_cases h2 : cS (nBd τ) (4 * s) 4 < 2
    · rw [if_pos h2, if_pos (by rw [li1, c_le (by omega) (by omega)]; omega)]; rfl
    · rw [if_neg h2, if_neg (by rw [li1, c_le (by omega) (by omega)]; omega)]; rfl
  · show fn_X3_broken_L6 T (n + 1) (nI s) (nI a) (nI i) τ = fn_X3_broken_L6 T n (nI s) (nI (a + nBd τ i)) (nI (i + 1)) τ
    rw [fn_X3_broken_L6]
    simp (disch := omega) only [b_wrong, gob, li4, li1, pk_mul, c_le, if_neg, nI_add, g1, g2]
    unfold nBd nWr
    by_cases h3 : τ 3 i = 0
    · rw [if_pos h3, if_pos h3, if_pos h3]
      by_cases h2 : τ 2 i = τ 1 i
      · rw [if_pos h2]; rfl
      · rw [if_neg h2]; rfl
    · rw [if_neg h3, if_neg h3]
  · show fn_X3_broken_L6 T (n + 1) (nI s) (nI a) (nI (4 * s + 4)) τ = _
    rw [fn_X3_broken_L6]
    simp (disch := omega) only [li4, pk_mul, nI_add, c_le, if_pos]
