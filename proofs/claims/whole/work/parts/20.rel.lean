/-! THE RELATION between the class's state σ and the reference's state τ (own work).
Class: 0 present, 1 due, 2 cell, 3 lost, 4 moved, 5 next, 6 total, 7 taken, 8 length, 9 extents, 10 start, 11 size.
Reference: 0 stripes, 1 word, 2 cell, 3 lost, 4 moved, 5 absent, 6 owner, 7 first, 8 size, 9 extents, 10 next. -/
def rN (T : Nat) (σ τ : gS) : Prop := (T = 7 ∨ T = 14 ∨ T = 21) ∧ σ 6 0 = nI T ∧ τ 0 0 = nI T ∧ ∃ n, n < T ∧ σ 5 0 = nI n ∧ τ 10 0 = nI n
def rW (T : Nat) (σ τ : gS) : Prop := ∀ i, i < 4 * T → σ 1 i = τ 1 i ∧ σ 2 i = τ 2 i ∧ σ 3 i = τ 3 i ∧ (τ 3 i = 0 ∨ τ 3 i = 1)
def rX (T : Nat) (τ : gS) : Prop := ∀ s, s < T → τ 1 (4 * s + 3) = (τ 1 (4 * s) ^^^ τ 1 (4 * s + 1)) ^^^ τ 1 (4 * s + 2)
/-- the moved column m of each stripe, 4 if none is; it isn't lost -/
def rM (T : Nat) (σ τ : gS) : Prop := ∀ s, s < T → ∃ m, m ≤ 4 ∧ σ 4 s = nI m ∧ (∀ c, c < 4 → τ 4 (4 * s + c) = if m = c then 1 else 0) ∧ (m < 4 → τ 3 (4 * s + m) = 0)
def rP (σ τ : gS) : Prop := ∀ d, d < 7 → (σ 0 d = 1 ∧ τ 5 d = 0) ∨ (σ 0 d = 0 ∧ τ 5 d = 1)
/-- the blocks: free on both sides, or taken and owned -/
def rB (T : Nat) (σ τ : gS) : Prop := ∀ b, b < 3 * T → (σ 7 b = 0 ∧ τ 6 b = 0) ∨ (σ 7 b = 1 ∧ ∃ f, f < 8 ∧ τ 6 b = nI (1 + f))
def sumN (f : Nat → Nat) : Nat → Nat
  | 0 => 0
  | n + 1 => sumN f n + f n
/-- a file: E extents, from st e, sz e long; its length; which blocks are its own -/
def rE (T : Nat) (σ τ : gS) (f E : Nat) (st sz : Nat → Nat) : Prop := E ≤ 3 ∧ σ 9 f = nI E ∧ τ 9 f = nI E ∧ (∀ e, e < E → σ 10 (3 * f + e) = nI (st e) ∧ σ 11 (3 * f + e) = nI (sz e) ∧ 1 ≤ sz e ∧ st e + sz e ≤ 3 * T) ∧ σ 8 f = nI (sumN sz E) ∧ sumN sz E ≤ 63 ∧ ∀ b, b < 3 * T → (τ 6 b = nI (1 + f) ↔ ∃ e, e < E ∧ st e ≤ b ∧ b < st e + sz e)
def rF (T : Nat) (σ τ : gS) : Prop := rB T σ τ ∧ (∀ j, j < 24 → σ 10 j = τ 7 j ∧ σ 11 j = τ 8 j) ∧ ∀ f, f < 8 → ∃ (E : Nat) (st sz : Nat → Nat), rE T σ τ f E st sz
def RR (T : Nat) (σ τ : gS) : Prop := rN T σ τ ∧ rW T σ τ ∧ rX T τ ∧ rM T σ τ ∧ rP σ τ ∧ rF T σ τ
theorem sim_init {T : Nat} {σ τ : gS} (hT3 : T = 7 ∨ T = 14 ∨ T = 21) (hS : iniS T σ) (hF : iniF σ) (hB : iniB T τ) : RR T σ τ := by
  obtain ⟨h0, h1, h2, h3, h4, h5, h6⟩ := hS
  obtain ⟨f7, f8, f9, f10, f11⟩ := hF
  obtain ⟨b0, bk⟩ := hB
  have z : ∀ k, 0 < k → ∀ j, τ k j = 0 := bk
  refine ⟨⟨hT3, h6, b0, 0, by omega, h5, z 10 (by omega) 0⟩, fun i hi => ⟨?_, ?_, ?_, ?_⟩, fun s hs => ?_, fun s hs => ⟨4, by omega, h4 s hs, fun c hc => ?_, fun h => by omega⟩, fun d hd => Or.inl ⟨h0 d hd, z 5 (by omega) d⟩, fun b hb => Or.inl ⟨f7 b, z 6 (by omega) b⟩, fun j hj => ⟨?_, ?_⟩, fun f hf => ⟨0, fun _ => 0, fun _ => 0, by omega, f9 f, z 9 (by omega) f, fun e he => by omega, f8 f, by simp [sumN], fun b hb => ⟨fun h => ?_, fun h => ?_⟩⟩⟩
  · rw [h1, z 1 (by omega)]
  · rw [h2, z 2 (by omega)]
  · rw [h3, z 3 (by omega)]
  · exact Or.inl (z 3 (by omega) i)
  · rw [z 1 (by omega), z 1 (by omega), z 1 (by omega), z 1 (by omega)]; decide
  · rw [z 4 (by omega), if_neg (by omega)]
  · rw [f10, z 7 (by omega)]
  · rw [f11, z 8 (by omega)]
  · rw [z 6 (by omega)] at h
    exact absurd h.symm (nI_ne0 (by omega) (by omega))
  · obtain ⟨e, he, _⟩ := h; omega
