/-! PURE ROWS: rebuild (own work) -/
theorem nBd_0 {τ : gS} {i : Nat} (h : nBd τ i = 0) : τ 3 i = 0 ∧ τ 2 i = τ 1 i := by
  unfold nBd at h
  by_cases h3 : τ 3 i = 0
  · rw [if_pos h3] at h
    by_cases h2 : τ 2 i = τ 1 i
    · exact ⟨h3, h2⟩
    · rw [if_neg h2] at h; omega
  · rw [if_neg h3] at h; omega
theorem fineOthers {τ : gS} {s c0 : Nat} (hb : nB τ s < 2) (hc0 : c0 < 4) (hl : ¬ τ 3 (4 * s + c0) = 0) : ∀ c, c < 4 → c ≠ c0 → τ 3 (4 * s + c) = 0 ∧ τ 2 (4 * s + c) = τ 1 (4 * s + c) := by
  have h1 : nBd τ (4 * s + c0) = 1 := by unfold nBd; rw [if_neg hl]
  rw [nB4] at hb
  intro c hc hne
  apply nBd_0
  rcases (show c0 = 0 ∨ c0 = 1 ∨ c0 = 2 ∨ c0 = 3 by omega) with rfl | rfl | rfl | rfl <;> rcases (show c = 0 ∨ c = 1 ∨ c = 2 ∨ c = 3 by omega) with rfl | rfl | rfl | rfl <;> (try simp only [Nat.add_zero] at h1 ⊢) <;> omega
theorem rbOne {T s : Nat} {σ τ : gS} (hR : RR T σ τ) (hs : s < T) : ∃ (r : Nat) (σ1 τ1 : gS), fn_X1_workOutIn T (nI s) σ = some (nI r, σ1) ∧ fn_X3_rebuilt T (nI s) τ = some (nI r, τ1) ∧ (r = 0 ∨ r = 1) ∧ RR T σ1 τ1 := by
  have hT := rr_T hR
  obtain ⟨c0, hc0, hz, hl⟩ := firstL τ s
  have ef := a_firstLost hR hs hc0 hz hl
  by_cases hb : nB τ s < 2
  · have eB : ∀ x, fn_X3_rebuilt_L14 T gs_fu (nI s) (nI (4 * s)) τ = x → fn_X3_rebuilt T (nI s) τ = x := by
      intro x hx
      unfold fn_X3_rebuilt
      rw [b_broken hT.2 hs, gob, if_pos hb, if_pos (show nI 0 = 0 from rfl), li4, pk_mul]
      exact hx
    by_cases h4 : c0 = 4
    · refine ⟨0, σ, τ, ?_, eB _ ?_, Or.inl rfl, hR⟩
      · unfold fn_X1_workOutIn
        rw [ef, gob, h4, if_pos (show nI 4 = 4 from rfl)]; rfl
      · have h5 := rb_skip (T := T) (τ := τ) (s := s) (by omega) 4 196 0 (by omega) (fun c' _ q => hz c' (by omega))
        exact h5.trans (rb_end (n := 195) (by omega))
    · have hc : c0 < 4 := by omega
      have hl := hl hc
      have hi : 4 * s + c0 < 4 * T := by omega
      have hne4 : ¬ nI c0 = 4 := nI_ne (b := 4) h4 (by omega) (by omega)
      have fine := fineOthers hb hc hl
      have e4 : τ 4 (4 * s + c0) = 0 := by
        rcases rr_mv hR hs hc with ⟨_, _, q⟩ | ⟨_, q⟩
        · exact absurd q hl
        · exact q
      have hx := hR.2.2.1 s hs
      have hwf : ∀ ρ : gS, ρ 2 = σ 2 → fn_X1_wordFromOthers T (nI s) (nI c0) ρ = some (τ 1 (4 * s + c0), ρ) := by
        intro ρ hρ
        have hv : ∀ c, c < 4 → c0 ≠ c → ρ 2 (4 * s + c) = τ 1 (4 * s + c) := by
          intro c q1 q2
          rw [hρ, (rr_w hR (show 4 * s + c < 4 * T by omega)).2.1]
          exact (fine c q1 (fun z => q2 z.symm)).2
        rw [a_wfo (w0 := τ 1 (4 * s)) (w1 := τ 1 (4 * s + 1)) (w2 := τ 1 (4 * s + 2)) hT.2 hs hc (fun q => hv 0 (by omega) q) (fun q => hv 1 (by omega) q) (fun q => hv 2 (by omega) q) (fun q => by rw [hv 3 (by omega) q]; exact hx)]
        rcases (show c0 = 0 ∨ c0 = 1 ∨ c0 = 2 ∨ c0 = 3 by omega) with rfl | rfl | rfl | rfl
        · rfl
        · rfl
        · rfl
        · show some ((τ 1 (4 * s) ^^^ τ 1 (4 * s + 1)) ^^^ τ 1 (4 * s + 2), ρ) = some (τ 1 (4 * s + 3), ρ)
          rw [hx]
      have hlt := hm_lt s c0
      have hbh := b_home (T := T) (τ := τ) (show 4 * s + c0 < 84 by omega)
      rw [show (4 * s + c0) / 4 = s by omega, show (4 * s + c0) % 4 = c0 by omega] at hbh
      have hbs := b_spare (T := T) (τ := τ) (show 4 * s + c0 < 84 by omega)
      rw [show (4 * s + c0) / 4 = s by omega] at hbs
      have eA : ∀ x, (gs_gd (nI (hm s c0)) 7 <| if σ 0 (nI (hm s c0)).toNatClampNeg = 0 then gs_ob (fn_X1_spare T (nI s) σ) fun r13 σ14 => gs_gd r13 7 <| if σ14 0 r13.toNatClampNeg = 0 then some (0, σ14) else gs_gd (nI s) T <| if σ14 4 (nI s).toNatClampNeg = 4 then gs_gd (nI s) T <| gs_lt (gs_st σ14 4 (upd (σ14 4) (nI s).toNatClampNeg (nI c0))) fun σ15 => gs_ob (fn_X1_place T (nI s) (nI c0) σ15) fun r16 σ17 => gs_ob (fn_X1_wordFromOthers T (nI s) (nI c0) σ17) fun r18 σ19 => gs_gd r16 (4 * T) <| gs_lt (gs_st σ19 2 (upd (σ19 2) r16.toNatClampNeg r18)) fun σ20 => gs_gd r16 (4 * T) <| gs_lt (gs_st σ20 3 (upd (σ20 3) r16.toNatClampNeg (vp_nar .boolean 0))) fun σ21 => some (1, σ21) else some (0, σ14) else gs_ob (fn_X1_place T (nI s) (nI c0) σ) fun r7 σ8 => gs_ob (fn_X1_wordFromOthers T (nI s) (nI c0) σ8) fun r9 σ10 => gs_gd r7 (4 * T) <| gs_lt (gs_st σ10 2 (upd (σ10 2) r7.toNatClampNeg r9)) fun σ11 => gs_gd r7 (4 * T) <| gs_lt (gs_st σ11 3 (upd (σ11 3) r7.toNatClampNeg (vp_nar .boolean 0))) fun σ12 => some (1, σ12)) = x → fn_X1_workOutIn T (nI s) σ = x := by
        intro x hxx
        unfold fn_X1_workOutIn
        rw [ef, gob, if_neg hne4, a_broken hR hs, gob, if_pos hb, if_pos (show nI 0 = 0 from rfl), a_home (by omega) hc, gob]
        exact hxx
      have eC : ∀ x, fn_X3_rebuilt_L14 T (199 - c0 + 1) (nI s) (nI (4 * s + c0)) τ = x → fn_X3_rebuilt T (nI s) τ = x := by
        intro x hxx
        apply eB
        have h5 := rb_skip (T := T) (τ := τ) (s := s) (by omega) c0 (199 - c0 + 1) 0 (by omega) (fun c' _ q => hz c' (by omega))
        rw [show 199 - c0 + 1 + c0 = gs_fu by rw [fu_e]; omega, Nat.zero_add] at h5
        exact h5.trans hxx
      have eD : ∀ n, fn_X3_rebuilt_L14 T (n + (3 - c0) + 1) (nI s) (nI (4 * s + c0 + 1)) τ = some (0, τ) := by
        intro n
        have h5 := rb_skip (T := T) (τ := τ) (s := s) (by omega) (3 - c0) (n + 1) (c0 + 1) (by omega) (fun c' q1 q2 => (fine c' (by omega) (by omega)).1)
        rw [show c0 + 1 + (3 - c0) = 4 by omega, show n + 1 + (3 - c0) = n + (3 - c0) + 1 by omega] at h5
        exact h5.trans (rb_end (by omega))
      have bstep : ∀ n, fn_X3_rebuilt_L14 T (n + 1) (nI s) (nI (4 * s + c0)) τ = if τ 5 (hm s c0) = 0 then some (1, gs_st (gs_st (gs_st τ 3 (upd (τ 3) (4 * s + c0) 0)) 2 (upd (τ 2) (4 * s + c0) (τ 1 (4 * s + c0)))) 4 (upd (τ 4) (4 * s + c0) 0)) else if τ 5 (s % 7) = 0 then gs_ob (fn_X3_movedOf T (nI s) τ) fun r14 σ15 => if r14 = 4 then some (1, gs_st (gs_st (gs_st σ15 3 (upd (σ15 3) (4 * s + c0) 0)) 2 (upd (σ15 2) (4 * s + c0) (σ15 1 (4 * s + c0)))) 4 (upd (σ15 4) (4 * s + c0) 1)) else fn_X3_rebuilt_L14 T n (nI s) (nI (4 * s + c0 + 1)) σ15 else fn_X3_rebuilt_L14 T n (nI s) (nI (4 * s + c0 + 1)) τ := by
        intro n
        rw [fn_X3_rebuilt_L14]
        rw [show (4 * nI s + 4 : Int32) = nI (4 * s + 4) by rw [li4, pk_mul, nI_add], if_neg (nI_ge (by omega) (by omega))]
        simp (disch := omega) only [g1, g2, if_neg hl, hbh, hbs, gob, glt, nb0, nb1]
        rw [show (nI (4 * s + c0) + 1 : Int32) = nI (4 * s + c0 + 1) by rw [li1, nI_add]]
        rfl
      rcases rr_p hR hlt with ⟨p1, p2⟩ | ⟨p1, p2⟩
      · refine ⟨1, _, _, eA _ ?_, eC _ ?_, Or.inr rfl, rr_fix (w := τ 1 (4 * s + c0)) hR hs hc e4⟩
        · rw [g1 hlt (by omega), g2 (by omega), p1, if_neg e10, a_place, gob, hwf σ rfl, gob]
          simp (disch := omega) only [g1, g2, glt, nb0]
          rfl
        · rw [bstep, p2, if_pos rfl]; rfl
      · have hs7 : s % 7 < 7 := Nat.mod_lt _ (by omega)
        rcases rr_p hR hs7 with ⟨u1, u2⟩ | ⟨u1, u2⟩
        · obtain ⟨m, m1, m2, m3, m4⟩ := hR.2.2.2.1 s hs
          have hmv := b_movedOf (T := T) (τ := τ) (show s < 21 by omega) m1 m3
          by_cases hm4 : m = 4
          · subst hm4
            refine ⟨1, _, _, eA _ ?_, eC _ ?_, Or.inr rfl, rr_away (w := τ 1 (4 * s + c0)) hR hs hc m2⟩
            · rw [g1 hlt (by omega), g2 (by omega), p1, if_pos rfl, a_spare (by omega), gob, g1 hs7 (by omega), g2 (by omega), u1, if_neg e10, g1 hs (by omega), g2 (by omega), if_pos (show σ 4 s = 4 from m2), g1 hs (by omega), glt, a_place, gob, hwf (gs_st σ 4 (upd (σ 4) s (nI c0))) rfl, gob]
              simp (disch := omega) only [g1, g2, glt, nb0]
              rfl
            · rw [bstep, p2, if_neg e10, u2, if_pos rfl, hmv, gob, if_pos (show nI 4 = 4 from rfl)]; rfl
          · have hn4 : ¬ nI m = 4 := nI_ne (b := 4) hm4 (by omega) (by omega)
            refine ⟨0, σ, τ, eA _ ?_, eC _ ?_, Or.inl rfl, hR⟩
            · rw [g1 hlt (by omega), g2 (by omega), p1, if_pos rfl, a_spare (by omega), gob, g1 hs7 (by omega), g2 (by omega), u1, if_neg e10, g1 hs (by omega), g2 (by omega), m2, if_neg hn4]; rfl
            · rw [bstep, p2, if_neg e10, u2, if_pos rfl, hmv, gob, if_neg hn4]
              have h6 := eD 195
              rw [show 195 + (3 - c0) + 1 = 199 - c0 by omega] at h6
              exact h6
        · refine ⟨0, σ, τ, eA _ ?_, eC _ ?_, Or.inl rfl, hR⟩
          · rw [g1 hlt (by omega), g2 (by omega), p1, if_pos rfl, a_spare (by omega), gob, g1 hs7 (by omega), g2 (by omega), u1, if_pos rfl]; rfl
          · rw [bstep, p2, if_neg e10, u2, if_neg e10]
            have h6 := eD 195
            rw [show 195 + (3 - c0) + 1 = 199 - c0 by omega] at h6
            exact h6
  · refine ⟨0, σ, τ, ?_, ?_, Or.inl rfl, hR⟩
    · unfold fn_X1_workOutIn
      rw [ef, gob]
      by_cases h4 : nI c0 = 4
      · rw [if_pos h4]; rfl
      · rw [if_neg h4, a_broken hR hs, gob, if_neg hb, if_neg e10n]; rfl
    · unfold fn_X3_rebuilt
      rw [b_broken hT.2 hs, gob, if_neg hb, if_neg e10n]; rfl
theorem rebuildLoop {T lim : Nat} (hl : lim ≤ 21) : ∀ (k s mA mB a : Nat) (σ τ : gS), s + k = T → k < mA → k < mB → a ≤ lim → RR T σ τ → ∃ (r : Int32) (σ1 τ1 : gS), fn_X1_workOut_L4 T mA (nI lim) (nI a) (nI s) σ = some (r, σ1) ∧ fn_X3_rebuild_L17 T mB (nI lim) (nI a) (nI s) τ = some (r, τ1) ∧ RR T σ1 τ1 := by
  intro k
  induction k with
  | zero =>
    intro s mA mB a σ τ h1 h2 h3 h4 hR
    have hT := rr_T hR
    obtain ⟨mA, rfl⟩ : ∃ n', mA = n' + 1 := ⟨mA - 1, by omega⟩
    obtain ⟨mB, rfl⟩ : ∃ n', mB = n' + 1 := ⟨mB - 1, by omega⟩
    refine ⟨nI a, σ, τ, ?_, ?_, hR⟩
    · rw [fn_X1_workOut_L4, rr_s6 hR, if_pos (nI_le (by omega) (by omega))]
    · rw [fn_X3_rebuild_L17, rr_t0 hR, if_pos (nI_le (by omega) (by omega))]
  | succ k ih =>
    intro s mA mB a σ τ h1 h2 h3 h4 hR
    have hT := rr_T hR
    obtain ⟨mA, rfl⟩ : ∃ n', mA = n' + 1 := ⟨mA - 1, by omega⟩
    obtain ⟨mB, rfl⟩ : ∃ n', mB = n' + 1 := ⟨mB - 1, by omega⟩
    by_cases hal : lim ≤ a
    · refine ⟨nI a, σ, τ, ?_, ?_, hR⟩
      · rw [fn_X1_workOut_L4, rr_s6 hR, if_neg (nI_ge (by omega) (by omega)), if_pos (nI_le hal (by omega))]
      · rw [fn_X3_rebuild_L17, rr_t0 hR, if_neg (nI_ge (by omega) (by omega)), if_pos (nI_le hal (by omega))]
    · obtain ⟨q, σ2, τ2, e1, e2, hq, hR2⟩ := rbOne hR (show s < T by omega)
      obtain ⟨r, σ1, τ1, f1, f2, hR1⟩ := ih (s + 1) mA mB (a + q) σ2 τ2 (by omega) (by omega) (by omega) (by omega) hR2
      refine ⟨r, σ1, τ1, ?_, ?_, hR1⟩
      · rw [fn_X1_workOut_L4, rr_s6 hR, if_neg (nI_ge (by omega) (by omega)), if_neg (nI_ge (by omega) (by omega)), e1, gob, ← f1]
        rcases hq with rfl | rfl
        · rw [if_pos (show nI 0 = 0 from rfl), li1, nI_add]; rfl
        · rw [if_neg e10n, li1, nI_add, nI_add]
      · rw [fn_X3_rebuild_L17, rr_t0 hR, if_neg (nI_ge (by omega) (by omega)), if_neg (nI_ge (by omega) (by omega)), e2, gob, ← f2]
        rcases hq with rfl | rfl
        · rw [if_pos (show nI 0 = 0 from rfl), li1, nI_add]; rfl
        · rw [if_neg e10n, li1, nI_add, nI_add]
theorem sim_rebuild {T : Nat} (_ : T = 7 ∨ T = 14 ∨ T = 21) : sm1 (fn_X2_rebuild T) (fn_X3_rebuild T) (RR T) := by
  intro σ τ a hR
  have hT := rr_T hR
  rcases amount a with ho | ⟨j, h1, h2, rfl⟩
  · refine ⟨-1, σ, τ, ?_, ?_, hR⟩
    · simp only [fn_X2_rebuild, a_isAmount_no ho, gob, if_true]
    · unfold fn_X3_rebuild
      rcases b_amount_no ho with h | ⟨h, h'⟩
      · rw [if_pos h]
      · rw [if_neg h, if_neg h']
  · obtain ⟨r, σ1, τ1, e1, e2, hR1⟩ := rebuildLoop h2 T 0 gs_fu gs_fu 0 σ τ (by omega) (by rw [fu_e]; omega) (by rw [fu_e]; omega) (by omega) hR
    refine ⟨r, σ1, τ1, ?_, ?_, hR1⟩
    · simp only [fn_X2_rebuild, a_isAmount_in h1 h2, gob, if_neg e10, fn_X1_workOut]
      rw [show fn_X1_workOut_L4 T gs_fu (nI j) 0 0 σ = some (r, σ1) from e1]; rfl
    · unfold fn_X3_rebuild
      rw [if_neg (by rw [li1, c_lt (by omega) (by omega)]; omega), if_pos (by rw [li21, c_le (by omega) (by omega)]; omega)]
      exact e2
