/-! PURE ROWS: create, remove (own work) -/
theorem rr_keepF {T : Nat} {σ τ σ' τ' : gS} (h : RR T σ τ) (hσ : ∀ k, k < 7 → σ' k = σ k) (hτ : ∀ k, k < 6 ∨ 9 < k → τ' k = τ k) (hF : rF T σ' τ') : RR T σ' τ' := by
  obtain ⟨hN, hW, hX, hM, hP, _⟩ := h
  refine ⟨?_, ?_, ?_, ?_, ?_, hF⟩
  · unfold rN at hN ⊢
    rw [hσ 6 (by omega), hτ 0 (by omega), hσ 5 (by omega), hτ 10 (by omega)]; exact hN
  · unfold rW at hW ⊢
    rw [hσ 1 (by omega), hσ 2 (by omega), hσ 3 (by omega), hτ 1 (by omega), hτ 2 (by omega), hτ 3 (by omega)]; exact hW
  · unfold rX at hX ⊢
    rw [hτ 1 (by omega)]; exact hX
  · unfold rM at hM ⊢
    rw [hσ 4 (by omega), hτ 4 (by omega), hτ 3 (by omega)]; exact hM
  · unfold rP at hP ⊢
    rw [hσ 0 (by omega), hτ 5 (by omega)]; exact hP
theorem a_mark {T b n : Nat} {v : Int32} {σ : gS} (hT : T ≤ 21) (hb : b + n ≤ 3 * T) : ∃ σ1, fn_X0_mark T (nI b) (nI n) v σ = some (0, σ1) ∧ (∀ k, k ≠ 7 → σ1 k = σ k) ∧ ∀ j, σ1 7 j = if b ≤ j ∧ j < b + n then vp_nar .boolean v else σ 7 j := by
  have key : ∀ (k e m : Nat) (σ : gS), e + k = b + n → k < m → b ≤ e → ∃ σ1, fn_X0_mark_L3 T m (nI b) (nI n) v (nI e) σ = some (0, σ1) ∧ (∀ k, k ≠ 7 → σ1 k = σ k) ∧ ∀ j, σ1 7 j = if e ≤ j ∧ j < b + n then vp_nar .boolean v else σ 7 j := by
    intro k
    induction k with
    | zero =>
      intro e m σ h1 h2 h3
      obtain ⟨m, rfl⟩ : ∃ n', m = n' + 1 := ⟨m - 1, by omega⟩
      refine ⟨σ, ?_, fun _ _ => rfl, fun j => ?_⟩
      · rw [fn_X0_mark_L3, nI_add, if_pos (nI_le (by omega) (by omega))]
      · rw [if_neg (by omega)]
    | succ k ih =>
      intro e m σ h1 h2 h3
      obtain ⟨m, rfl⟩ : ∃ n', m = n' + 1 := ⟨m - 1, by omega⟩
      obtain ⟨σ1, e1, e2, e3⟩ := ih (e + 1) m (gs_st σ 7 (upd (σ 7) e (vp_nar .boolean v))) (by omega) (by omega) (by omega)
      refine ⟨σ1, ?_, fun k hk => (e2 k hk).trans (st_n hk), fun j => ?_⟩
      · rw [fn_X0_mark_L3, nI_add, if_neg (nI_ge (by omega) (by omega)), g1 (by omega) (by omega), g2 (by omega), glt, li1, nI_add]; exact e1
      · rw [e3 j]
        show (if e + 1 ≤ j ∧ j < b + n then vp_nar .boolean v else upd (σ 7) e (vp_nar .boolean v) j) = _
        by_cases hj : j = e
        · rw [hj, pk_us, if_neg (by omega), if_pos (by omega)]
        · rw [pk_un hj]
          by_cases hq : e ≤ j ∧ j < b + n
          · rw [if_pos (by omega), if_pos hq]
          · rw [if_neg (by omega), if_neg hq]
  exact key n b gs_fu σ rfl (by rw [fu_e]; omega) (Nat.le_refl b)
theorem b_give {T f E b n : Nat} {τ : gS} (hf : f < 8) (hE : τ 9 f = nI E) (hE3 : E < 3) (hb : b + n ≤ 63) : ∃ τ1, fn_X3_give T (nI f) (nI b) (nI n) τ = some (0, τ1) ∧ (∀ k, k < 6 ∨ 9 < k → τ1 k = τ k) ∧ (∀ j, τ1 6 j = if b ≤ j ∧ j < b + n then nI (1 + f) else τ 6 j) ∧ τ1 7 = upd (τ 7) (3 * f + E) (nI b) ∧ τ1 8 = upd (τ 8) (3 * f + E) (nI n) ∧ τ1 9 = upd (τ 9) f (nI (E + 1)) := by
  have key : ∀ (k e m : Nat) (τ : gS), τ 9 f = nI E → e + k = b + n → k < m → b ≤ e → ∃ τ1, fn_X3_give_L3 T m (nI f) (nI b) (nI n) (nI e) τ = some (0, τ1) ∧ (∀ k, k < 6 ∨ 9 < k → τ1 k = τ k) ∧ (∀ j, τ1 6 j = if e ≤ j ∧ j < b + n then nI (1 + f) else τ 6 j) ∧ τ1 7 = upd (τ 7) (3 * f + E) (nI b) ∧ τ1 8 = upd (τ 8) (3 * f + E) (nI n) ∧ τ1 9 = upd (τ 9) f (nI (E + 1)) := by
    intro k
    induction k with
    | zero =>
      intro e m τ hE h1 h2 h3
      obtain ⟨m, rfl⟩ : ∃ n', m = n' + 1 := ⟨m - 1, by omega⟩
      refine ⟨gs_st (gs_st (gs_st τ 7 (upd (τ 7) (3 * f + E) (nI b))) 8 (upd (τ 8) (3 * f + E) (nI n))) 9 (upd (τ 9) f (nI (E + 1))), ?_, fun k hk => ?_, fun j => ?_, rfl, rfl, rfl⟩
      · rw [fn_X3_give_L3, nI_add, if_pos (nI_le (by omega) (by omega)), g1 hf (by omega), g2 (by omega), hE, xj, g1 (by omega) (by omega), g2 (by omega), glt, g1 hf (by omega)]
        rw [show gs_st τ 7 (upd (τ 7) (3 * f + E) (nI b)) 9 f = nI E from hE, xj, g1 (by omega) (by omega), g2 (by omega), glt, g1 hf (by omega), g1 hf (by omega), glt]
        rw [show gs_st (gs_st τ 7 (upd (τ 7) (3 * f + E) (nI b))) 8 (upd (gs_st τ 7 (upd (τ 7) (3 * f + E) (nI b)) 8) (3 * f + E) (nI n)) 9 f = nI E from hE, li1, nI_add]
        rfl
      · rw [st_n (by omega), st_n (by omega), st_n (by omega)]
      · rw [if_neg (by omega)]; rfl
    | succ k ih =>
      intro e m τ hE h1 h2 h3
      obtain ⟨m, rfl⟩ : ∃ n', m = n' + 1 := ⟨m - 1, by omega⟩
      obtain ⟨τ1, e1, e2, e3, e4⟩ := ih (e + 1) m (gs_st τ 6 (upd (τ 6) e (nI (1 + f)))) hE (by omega) (by omega) (by omega)
      refine ⟨τ1, ?_, fun k hk => (e2 k hk).trans (st_n (by omega)), fun j => ?_, e4⟩
      · rw [fn_X3_give_L3, nI_add, if_neg (nI_ge (by omega) (by omega)), g1 (by omega) (by omega), g2 (by omega), glt, li1, nI_add, nI_add]; exact e1
      · rw [e3 j]
        show (if e + 1 ≤ j ∧ j < b + n then nI (1 + f) else upd (τ 6) e (nI (1 + f)) j) = _
        by_cases hj : j = e
        · rw [hj, pk_us, if_neg (by omega), if_pos (by omega)]
        · rw [pk_un hj]
          by_cases hq : e ≤ j ∧ j < b + n
          · rw [if_pos (by omega), if_pos hq]
          · rw [if_neg (by omega), if_neg hq]
  exact key n b gs_fu τ hE rfl (by rw [fu_e]; omega) (Nat.le_refl b)
theorem a_addExtent {T f E S b n : Nat} {σ : gS} (hT : T ≤ 21) (hf : f < 8) (hE : σ 9 f = nI E) (hE3 : E < 3) (hS : σ 8 f = nI S) (hb : b + n ≤ 3 * T) : ∃ σ1, fn_X0_addExtent T (nI f) (nI b) (nI n) σ = some (0, σ1) ∧ (∀ k, k < 7 → σ1 k = σ k) ∧ (∀ j, σ1 7 j = if b ≤ j ∧ j < b + n then 1 else σ 7 j) ∧ σ1 8 = upd (σ 8) f (nI (S + n)) ∧ σ1 9 = upd (σ 9) f (nI (E + 1)) ∧ σ1 10 = upd (σ 10) (3 * f + E) (nI b) ∧ σ1 11 = upd (σ 11) (3 * f + E) (nI n) := by
  obtain ⟨σ0, e0⟩ : ∃ u, u = gs_st (gs_st (gs_st (gs_st σ 10 (upd (σ 10) (3 * f + E) (nI b))) 11 (upd (σ 11) (3 * f + E) (nI n))) 9 (upd (σ 9) f (nI (E + 1)))) 8 (upd (σ 8) f (nI (S + n))) := ⟨_, rfl⟩
  obtain ⟨σ1, m1, m2, m3⟩ := a_mark (v := 1) (σ := σ0) hT hb
  refine ⟨σ1, ?_, fun k hk => ?_, fun j => ?_, ?_, ?_, ?_, ?_⟩
  · unfold fn_X0_addExtent
    rw [g1 hf (by omega), g2 (by omega), hE, xi, g1 (by omega) (by omega), g2 (by omega), glt, g1 (by omega) (by omega), glt, g1 hf (by omega), g1 hf (by omega), glt, g1 hf (by omega), g1 hf (by omega), glt]
    rw [show gs_st (gs_st σ 10 (upd (σ 10) (3 * f + E) (nI b))) 11 (upd (gs_st σ 10 (upd (σ 10) (3 * f + E) (nI b)) 11) (3 * f + E) (nI n)) 9 f = nI E from hE, li1, nI_add]
    rw [show gs_st (gs_st (gs_st σ 10 (upd (σ 10) (3 * f + E) (nI b))) 11 (upd (gs_st σ 10 (upd (σ 10) (3 * f + E) (nI b)) 11) (3 * f + E) (nI n))) 9 (upd (gs_st (gs_st σ 10 (upd (σ 10) (3 * f + E) (nI b))) 11 (upd (gs_st σ 10 (upd (σ 10) (3 * f + E) (nI b)) 11) (3 * f + E) (nI n)) 9) f (nI (E + 1))) 8 f = nI S from hS, nI_add]
    rw [← li1]
    have m1' := m1
    rw [e0] at m1'
    exact (gs_ob_s m1')
  · rw [m2 k (by omega), e0, st_n (by omega), st_n (by omega), st_n (by omega), st_n (by omega)]
  · rw [m3 j, nb1, e0]; rfl
  · rw [m2 8 (by omega), e0]; rfl
  · rw [m2 9 (by omega), e0]; rfl
  · rw [m2 10 (by omega), e0]; rfl
  · rw [m2 11 (by omega), e0]; rfl
theorem sumN_congr {f g : Nat → Nat} : ∀ (n : Nat), (∀ e, e < n → f e = g e) → sumN f n = sumN g n := by
  intro n
  induction n with
  | zero => intro _; rfl
  | succ n ih =>
    intro h
    show sumN f n + f n = sumN g n + g n
    rw [ih (fun e he => h e (by omega)), h n (by omega)]
theorem giveBoth {T f E b n : Nat} {st sz : Nat → Nat} {σ τ : gS} (hR : RR T σ τ) (hf : f < 8) (hE : rE T σ τ f E st sz) (hE3 : E < 3) (hn : 1 ≤ n) (hb : b + n ≤ 3 * T) (hfree : ∀ j, b ≤ j → j < b + n → τ 6 j = 0) (hS : sumN sz E + n ≤ 63) : ∃ (σ1 τ1 : gS) (st1 sz1 : Nat → Nat), fn_X0_addExtent T (nI f) (nI b) (nI n) σ = some (0, σ1) ∧ fn_X3_give T (nI f) (nI b) (nI n) τ = some (0, τ1) ∧ RR T σ1 τ1 ∧ rE T σ1 τ1 f (E + 1) st1 sz1 ∧ sumN sz1 (E + 1) = sumN sz E + n := by
  have hT := rr_T hR
  obtain ⟨q3, q9, t9, hx, q8, q63, hown⟩ := hE
  obtain ⟨σ1, a1, a2, a7, a8, a9, a10, a11⟩ := a_addExtent (S := sumN sz E) hT.2 hf q9 hE3 q8 hb
  obtain ⟨τ1, b1, b2, b6, b7, b8, b9⟩ := b_give (T := T) (b := b) (n := n) hf t9 hE3 (by omega)
  obtain ⟨st1, es⟩ : ∃ s1 : Nat → Nat, s1 = fun e => if e = E then b else st e := ⟨_, rfl⟩
  obtain ⟨sz1, ez⟩ : ∃ s1 : Nat → Nat, s1 = fun e => if e = E then n else sz e := ⟨_, rfl⟩
  have stE : st1 E = b := by rw [es]; exact if_pos rfl
  have szE : sz1 E = n := by rw [ez]; exact if_pos rfl
  have st_lt : ∀ e, e < E → st1 e = st e := fun e he => by rw [es]; exact if_neg (by omega)
  have sz_lt : ∀ e, e < E → sz1 e = sz e := fun e he => by rw [ez]; exact if_neg (by omega)
  have hsum : sumN sz1 (E + 1) = sumN sz E + n := by
    show sumN sz1 E + sz1 E = sumN sz E + n
    rw [sumN_congr E sz_lt, szE]
  have hE1 : rE T σ1 τ1 f (E + 1) st1 sz1 := by
    refine ⟨by omega, by rw [a9]; exact pk_us, by rw [b9]; exact pk_us, fun e he => ?_, by rw [a8, hsum]; exact pk_us, by omega, fun j hj => ?_⟩
    · rw [a10, a11]
      by_cases heE : e = E
      · rw [heE, pk_us, pk_us, stE, szE]; exact ⟨rfl, rfl, hn, hb⟩
      · rw [pk_un (by omega), pk_un (by omega), st_lt e (by omega), sz_lt e (by omega)]; exact hx e (by omega)
    · rw [b6 j]
      by_cases hq : b ≤ j ∧ j < b + n
      · rw [if_pos hq]
        exact ⟨fun _ => ⟨E, by omega, by rw [stE]; exact hq.1, by rw [stE, szE]; exact hq.2⟩, fun _ => rfl⟩
      · rw [if_neg hq, hown j hj]
        constructor
        · rintro ⟨e, h1, h2, h3⟩
          exact ⟨e, by omega, by rw [st_lt e h1]; exact h2, by rw [st_lt e h1, sz_lt e h1]; exact h3⟩
        · rintro ⟨e, h1, h2, h3⟩
          by_cases heE : e = E
          · rw [heE, stE] at h2
            rw [heE, stE, szE] at h3
            exact absurd ⟨h2, h3⟩ hq
          · rw [st_lt e (by omega)] at h2
            rw [st_lt e (by omega), sz_lt e (by omega)] at h3
            exact ⟨e, by omega, h2, h3⟩
  refine ⟨σ1, τ1, st1, sz1, a1, b1, rr_keepF hR a2 b2 ⟨fun j hj => ?_, fun j hj => ?_, fun g hg => ?_⟩, hE1, hsum⟩
  · rw [a7 j, b6 j]
    by_cases hq : b ≤ j ∧ j < b + n
    · rw [if_pos hq, if_pos hq]; exact Or.inr ⟨rfl, f, hf, rfl⟩
    · rw [if_neg hq, if_neg hq]; exact hR.2.2.2.2.2.1 j hj
  · rw [a10, a11, b7, b8]
    by_cases hq : j = 3 * f + E
    · rw [hq, pk_us, pk_us, pk_us, pk_us]; exact ⟨rfl, rfl⟩
    · rw [pk_un hq, pk_un hq, pk_un hq, pk_un hq]; exact rr_j hR hj
  · by_cases hgf : g = f
    · rw [hgf]; exact ⟨E + 1, st1, sz1, hE1⟩
    · obtain ⟨G, gt, gz, g3, g9, gt9, gx, g8, g63, gown⟩ := rr_f hR hg
      refine ⟨G, gt, gz, g3, by rw [a9, pk_un hgf]; exact g9, by rw [b9, pk_un hgf]; exact gt9, fun e he => ?_, by rw [a8, pk_un hgf]; exact g8, g63, fun j hj => ?_⟩
      · rw [a10, a11, pk_un (by omega), pk_un (by omega)]; exact gx e he
      · rw [b6 j]
        by_cases hq : b ≤ j ∧ j < b + n
        · rw [if_pos hq]
          constructor
          · intro z
            exact absurd ((nI_eq (by omega) (by omega)).mp z) (by omega)
          · intro z
            have h6 := (gown j hj).mpr z
            rw [hfree j hq.1 hq.2] at h6
            exact absurd h6.symm (nI_ne0 (by omega) (by omega))
        · rw [if_neg hq]; exact gown j hj
/-! releasing -/
theorem a_release {T f E : Nat} {st sz : Nat → Nat} {σ τ : gS} (hR : RR T σ τ) (hf : f < 8) (hE : rE T σ τ f E st sz) : ∃ σ1, fn_X0_release T (nI f) σ = some (0, σ1) ∧ (∀ k, k < 7 → σ1 k = σ k) ∧ σ1 10 = σ 10 ∧ σ1 11 = σ 11 ∧ σ1 9 = upd (σ 9) f 0 ∧ σ1 8 = upd (σ 8) f 0 ∧ (∀ j, (∃ e, e < E ∧ st e ≤ j ∧ j < st e + sz e) → σ1 7 j = 0) ∧ ∀ j, (¬ ∃ e, e < E ∧ st e ≤ j ∧ j < st e + sz e) → σ1 7 j = σ 7 j := by
  have hT := rr_T hR
  obtain ⟨q3, q9, t9, hx, q8, q63, hown⟩ := hE
  have key : ∀ (k e m : Nat) (ρ : gS), e + k = E → k < m → ρ 9 = σ 9 → ρ 10 = σ 10 → ρ 11 = σ 11 → ∃ ρ1, fn_X0_release_L2 T m (nI f) (nI e) ρ = some (0, ρ1) ∧ (∀ k, k < 7 → ρ1 k = ρ k) ∧ ρ1 10 = ρ 10 ∧ ρ1 11 = ρ 11 ∧ ρ1 9 = upd (ρ 9) f 0 ∧ ρ1 8 = upd (ρ 8) f 0 ∧ (∀ j, (∃ e', e ≤ e' ∧ e' < E ∧ st e' ≤ j ∧ j < st e' + sz e') → ρ1 7 j = 0) ∧ ∀ j, (¬ ∃ e', e ≤ e' ∧ e' < E ∧ st e' ≤ j ∧ j < st e' + sz e') → ρ1 7 j = ρ 7 j := by
    intro k
    induction k with
    | zero =>
      intro e m ρ h1 h2 r9 r10 r11
      obtain ⟨m, rfl⟩ : ∃ n', m = n' + 1 := ⟨m - 1, by omega⟩
      refine ⟨gs_st (gs_st ρ 9 (upd (ρ 9) f 0)) 8 (upd (ρ 8) f 0), ?_, fun k hk => ?_, rfl, rfl, rfl, rfl, ?_, fun j _ => rfl⟩
      · rw [fn_X0_release_L2, g1 hf (by omega), g2 (by omega), r9, q9, if_pos (nI_le (by omega) (by omega)), g1 hf (by omega), glt, g1 hf (by omega), glt, ← r9]; rfl
      · rw [st_n (by omega), st_n (by omega)]
      · rintro j ⟨e', h3, h4, _⟩; omega
    | succ k ih =>
      intro e m ρ h1 h2 r9 r10 r11
      obtain ⟨m, rfl⟩ : ∃ n', m = n' + 1 := ⟨m - 1, by omega⟩
      have he : e < E := by omega
      obtain ⟨x1, x2, x3, x4⟩ := hx e he
      obtain ⟨ρ', m1, m2, m3⟩ := a_mark (v := 0) (σ := ρ) hT.2 x4
      obtain ⟨ρ1, f1, f2, f3, f4, f5, f6, f7, f8⟩ := ih (e + 1) m ρ' (by omega) (by omega) (by rw [m2 9 (by omega)]; exact r9) (by rw [m2 10 (by omega)]; exact r10) (by rw [m2 11 (by omega)]; exact r11)
      refine ⟨ρ1, ?_, fun k hk => (f2 k hk).trans (m2 k (by omega)), by rw [f3, m2 10 (by omega)], by rw [f4, m2 11 (by omega)], by rw [f5, m2 9 (by omega)], by rw [f6, m2 8 (by omega)], ?_, ?_⟩
      · rw [fn_X0_release_L2, g1 hf (by omega), g2 (by omega), r9, q9, if_neg (nI_ge he (by omega)), a_exStart hf (by omega), gob, a_exSize hf (by omega), gob, r10, r11, x1, x2, m1, gob, li1, nI_add]
        exact f1
      · rintro j ⟨e', h3, h4, h5⟩
        by_cases hin : ∃ e'', e + 1 ≤ e'' ∧ e'' < E ∧ st e'' ≤ j ∧ j < st e'' + sz e''
        · exact f7 j hin
        · rw [f8 j hin, m3 j]
          have hee : e' = e := by
            apply Classical.byContradiction
            intro q
            exact hin ⟨e', by omega, h4, h5⟩
          rw [hee] at h5
          rw [if_pos h5]; exact nb0
      · intro j hj
        have hin : ¬ ∃ e'', e + 1 ≤ e'' ∧ e'' < E ∧ st e'' ≤ j ∧ j < st e'' + sz e'' := by
          rintro ⟨e'', h3, h4, h5⟩
          exact hj ⟨e'', by omega, h4, h5⟩
        rw [f8 j hin, m3 j, if_neg (fun q => hj ⟨e, Nat.le_refl e, he, q⟩)]
  obtain ⟨σ1, f1, f2, f3, f4, f5, f6, f7, f8⟩ := key E 0 gs_fu σ (by omega) (by rw [fu_e]; omega) rfl rfl rfl
  refine ⟨σ1, f1, f2, f3, f4, f5, f6, fun j h => ?_, fun j h => ?_⟩
  · obtain ⟨e, h1, h2⟩ := h
    exact f7 j ⟨e, Nat.zero_le e, h1, h2⟩
  · refine f8 j (fun q => ?_)
    obtain ⟨e, _, h1, h2⟩ := q
    exact h ⟨e, h1, h2⟩
theorem b_remove {T f : Nat} {τ : gS} (hf : f < 8) : ∃ τ1, fn_X3_remove_L22 T gs_fu (nI f) 0 τ = some (0, τ1) ∧ (∀ k, k ≠ 6 → k ≠ 9 → τ1 k = τ k) ∧ τ1 9 = upd (τ 9) f 0 ∧ ∀ j, j < 63 → τ1 6 j = if τ 6 j = nI (1 + f) then 0 else τ 6 j := by
  have key : ∀ (k e m : Nat) (τ : gS), e + k = 63 → k < m → ∃ τ1, fn_X3_remove_L22 T m (nI f) (nI e) τ = some (0, τ1) ∧ (∀ k, k ≠ 6 → k ≠ 9 → τ1 k = τ k) ∧ τ1 9 = upd (τ 9) f 0 ∧ (∀ j, j < e → τ1 6 j = τ 6 j) ∧ ∀ j, e ≤ j → j < 63 → τ1 6 j = if τ 6 j = nI (1 + f) then 0 else τ 6 j := by
    intro k
    induction k with
    | zero =>
      intro e m τ h1 h2
      obtain ⟨m, rfl⟩ : ∃ n', m = n' + 1 := ⟨m - 1, by omega⟩
      refine ⟨gs_st τ 9 (upd (τ 9) f 0), ?_, fun k _ h => st_n h, rfl, fun j _ => rfl, fun j h3 h4 => by omega⟩
      rw [fn_X3_remove_L22, li63, if_pos (nI_le (by omega) (by omega)), g1 hf (by omega), g2 (by omega), glt]
    | succ k ih =>
      intro e m τ h1 h2
      obtain ⟨m, rfl⟩ : ∃ n', m = n' + 1 := ⟨m - 1, by omega⟩
      by_cases h6 : τ 6 e = nI (1 + f)
      · obtain ⟨τ1, f1, f2, f3, f4, f5⟩ := ih (e + 1) m (gs_st τ 6 (upd (τ 6) e 0)) (by omega) (by omega)
        refine ⟨τ1, ?_, fun k h k9 => (f2 k h k9).trans (st_n h), f3, fun j hj => ?_, fun j hj hj2 => ?_⟩
        · rw [fn_X3_remove_L22, li63, if_neg (nI_ge (by omega) (by omega)), g1 (by omega) (by omega), g2 (by omega), show (1 + nI f : Int32) = nI (1 + f) by rw [li1, nI_add], if_pos h6, g1 (by omega) (by omega), glt, li1, nI_add]
          exact f1
        · rw [f4 j (by omega)]
          show upd (τ 6) e 0 j = τ 6 j
          exact pk_un (by omega)
        · by_cases hje : j = e
          · rw [f4 j (by omega), hje, if_pos h6]
            exact pk_us
          · rw [f5 j (by omega) hj2, show gs_st τ 6 (upd (τ 6) e 0) 6 j = τ 6 j from pk_un hje]
      · obtain ⟨τ1, f1, f2, f3, f4, f5⟩ := ih (e + 1) m τ (by omega) (by omega)
        refine ⟨τ1, ?_, f2, f3, fun j hj => f4 j (by omega), fun j hj hj2 => ?_⟩
        · rw [fn_X3_remove_L22, li63, if_neg (nI_ge (by omega) (by omega)), g1 (by omega) (by omega), g2 (by omega), show (1 + nI f : Int32) = nI (1 + f) by rw [li1, nI_add], if_neg h6, li1, nI_add]
          exact f1
        · by_cases hje : j = e
          · rw [f4 j (by omega), hje, if_neg h6]
          · exact f5 j (by omega) hj2
  obtain ⟨τ1, f1, f2, f3, f4, f5⟩ := key 63 0 gs_fu τ rfl (by rw [fu_e]; omega)
  exact ⟨τ1, f1, f2, f3, fun j hj => f5 j (Nat.zero_le j) hj⟩
theorem relRR {T f E : Nat} {st sz : Nat → Nat} {σ τ σ1 τ1 : gS} (hR : RR T σ τ) (hf : f < 8) (hE : rE T σ τ f E st sz) (a2 : ∀ k, k < 7 → σ1 k = σ k) (a10 : σ1 10 = σ 10) (a11 : σ1 11 = σ 11) (a9 : σ1 9 = upd (σ 9) f 0) (a8 : σ1 8 = upd (σ 8) f 0) (a7 : ∀ j, (∃ e, e < E ∧ st e ≤ j ∧ j < st e + sz e) → σ1 7 j = 0) (a7' : ∀ j, (¬ ∃ e, e < E ∧ st e ≤ j ∧ j < st e + sz e) → σ1 7 j = σ 7 j)
    (b2 : ∀ k, k ≠ 6 → k ≠ 9 → τ1 k = τ k) (b9 : τ1 9 = upd (τ 9) f 0) (b6 : ∀ j, j < 3 * T → τ1 6 j = if τ 6 j = nI (1 + f) then 0 else τ 6 j) : RR T σ1 τ1 := by
  have hT := rr_T hR
  obtain ⟨q3, q9, t9, hx, q8, q63, hown⟩ := hE
  refine rr_keepF hR a2 (fun k hk => b2 k (by omega) (by omega)) ⟨fun j hj => ?_, fun j hj => ?_, fun g hg => ?_⟩
  · rw [b6 j hj]
    by_cases h6 : τ 6 j = nI (1 + f)
    · rw [if_pos h6, a7 j ((hown j hj).mp h6)]; exact Or.inl ⟨rfl, rfl⟩
    · rw [if_neg h6, a7' j (fun q => h6 ((hown j hj).mpr q))]; exact hR.2.2.2.2.2.1 j hj
  · rw [a10, a11, b2 7 (by omega) (by omega), b2 8 (by omega) (by omega)]; exact rr_j hR hj
  · by_cases hgf : g = f
    · subst hgf
      refine ⟨0, st, sz, by omega, by rw [a9]; exact pk_us, by rw [b9]; exact pk_us, fun e he => by omega, by rw [a8]; exact pk_us, by show 0 ≤ 63; omega, fun j hj => ?_⟩
      rw [b6 j hj]
      constructor
      · intro z
        by_cases h6 : τ 6 j = nI (1 + g)
        · rw [if_pos h6] at z
          exact absurd z.symm (nI_ne0 (by omega) (by omega))
        · rw [if_neg h6] at z
          exact absurd z h6
      · rintro ⟨e, h1, _⟩; omega
    · obtain ⟨G, gt, gz, g3, g9, gt9, gx, g8, g63, gown⟩ := rr_f hR hg
      refine ⟨G, gt, gz, g3, by rw [a9, pk_un hgf]; exact g9, by rw [b9, pk_un hgf]; exact gt9, fun e he => ?_, by rw [a8, pk_un hgf]; exact g8, g63, fun j hj => ?_⟩
      · rw [a10, a11]; exact gx e he
      · rw [b6 j hj]
        by_cases h6 : τ 6 j = nI (1 + f)
        · rw [if_pos h6]
          constructor
          · intro z
            exact absurd z.symm (nI_ne0 (by omega) (by omega))
          · intro z
            have h7 := (gown j hj).mpr z
            rw [h6] at h7
            exact absurd ((nI_eq (by omega) (by omega)).mp h7) (by omega)
        · rw [if_neg h6]; exact gown j hj
theorem sum_pos {T f E : Nat} {st sz : Nat → Nat} {σ τ : gS} (hE : rE T σ τ f E st sz) (h : 0 < E) : 0 < sumN sz E := by
  obtain ⟨q3, q9, t9, hx, q8, q63, hown⟩ := hE
  have h1 := (hx 0 h).2.2.1
  have h2 := sumN_mono sz 1 E (by omega)
  have h3 : sumN sz 1 = 0 + sz 0 := rfl
  omega
/-- the class releases, the reference removes -/
theorem relBoth {T f : Nat} {σ τ : gS} (hR : RR T σ τ) (hf : f < 8) : ∃ (σ1 τ1 : gS) (r : Int32), fn_X0_release T (nI f) σ = some (0, σ1) ∧ fn_X3_remove T (nI f) τ = some (r, τ1) ∧ RR T σ1 τ1 ∧ (¬ τ 9 f = 0 → r = 0) := by
  have hT := rr_T hR
  obtain ⟨E, st, sz, hE⟩ := rr_f hR hf
  obtain ⟨σ1, f1, f2, f3, f4, f5, f6, f7, f8⟩ := a_release hR hf hE
  by_cases h0 : τ 9 f = 0
  · refine ⟨σ1, τ, -1, f1, ?_, relRR hR hf hE f2 f3 f4 f5 f6 f7 f8 (fun _ _ _ => rfl) (upd_id h0).symm (fun j hj => ?_), fun q => absurd h0 q⟩
    · unfold fn_X3_remove
      rw [li8, b_in_in hf (by omega), gob, if_neg e10, g1 hf (by omega), g2 (by omega), if_pos h0]
    · have hE0 : E = 0 := by
        have h9 := hE.2.2.1
        rw [h0] at h9
        have h3 := hE.1
        exact ((nI_eq (a := 0) (by omega) (by omega)).mp h9).symm
      rw [if_neg (fun q => ?_)]
      obtain ⟨e, he, _⟩ := (hE.2.2.2.2.2.2 j hj).mp q
      omega
  · obtain ⟨τ1, g1', g2', g3', g4'⟩ := b_remove (T := T) (τ := τ) hf
    refine ⟨σ1, τ1, 0, f1, ?_, relRR hR hf hE f2 f3 f4 f5 f6 f7 f8 g2' g3' (fun j hj => g4' j (by omega)), fun _ => rfl⟩
    unfold fn_X3_remove
    rw [li8, b_in_in hf (by omega), gob, if_neg e10, g1 hf (by omega), g2 (by omega), if_neg h0]
    exact g1'
theorem a_isThere {T f E : Nat} {st sz : Nat → Nat} {σ τ : gS} (hf : f < 8) (hE : rE T σ τ f E st sz) : fn_X0_isThere T (nI f) σ = some (if τ 9 f = 0 then 0 else 1, σ) := by
  have hp := sum_pos hE
  obtain ⟨q3, q9, t9, hx, q8, q63, hown⟩ := hE
  unfold fn_X0_isThere
  rw [g1 hf (by omega), g2 (by omega), q8, t9]
  by_cases h0 : E = 0
  · subst h0
    rw [if_pos (show nI (sumN sz 0) ≤ 0 from Int32.le_refl _), if_pos (show nI 0 = 0 from rfl)]
  · rw [if_neg (show ¬ nI (sumN sz E) ≤ 0 from nI_ge (a := 0) (hp (by omega)) (by omega)), if_neg (show ¬ nI E = 0 from nI_ne (b := 0) h0 (by omega) (by omega))]
theorem sim_remove {T : Nat} (_ : T = 7 ∨ T = 14 ∨ T = 21) : sm1 (fn_X2_remove T) (fn_X3_remove T) (RR T) := by
  intro σ τ x hR
  rcases ix x 8 (by omega) with ho | ⟨f, hf, rfl⟩
  · refine ⟨-1, σ, τ, ?_, ?_, hR⟩
    · unfold fn_X2_remove; rw [a_isFile_no ho, gob, if_pos rfl]
    · unfold fn_X3_remove; rw [li8, b_in_no ho, gob, if_pos rfl]
  · obtain ⟨E, st, sz, hE⟩ := rr_f hR hf
    by_cases h0 : τ 9 f = 0
    · refine ⟨-1, σ, τ, ?_, ?_, hR⟩
      · unfold fn_X2_remove; rw [a_isFile_in hf, gob, if_neg e10, a_isThere hf hE, if_pos h0, gob, if_pos rfl]
      · unfold fn_X3_remove; rw [li8, b_in_in hf (by omega), gob, if_neg e10, g1 hf (by omega), g2 (by omega), if_pos h0]
    · obtain ⟨σ1, τ1, r, e1, e2, hR1, hr⟩ := relBoth hR hf
      rw [hr h0] at e2
      refine ⟨0, σ1, τ1, ?_, e2, hR1⟩
      unfold fn_X2_remove; rw [a_isFile_in hf, gob, if_neg e10, a_isThere hf hE, if_neg h0, gob, if_neg e10, e1, gob]
