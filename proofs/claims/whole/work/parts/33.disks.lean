/-! PURE ROWS: fail, disk (own work) -/
theorem rr_lose {T s c : Nat} {σ τ : gS} (h : RR T σ τ) (hs : s < T) (hc : c < 4) : ∃ σ1, fn_X1_lose T (nI s) (nI c) σ = some (0, σ1) ∧ RR T σ1 (gs_st (gs_st τ 3 (upd (τ 3) (4 * s + c) 1)) 4 (upd (τ 4) (4 * s + c) 0)) := by
  have hT := rr_T h
  obtain ⟨hN, hW, hX, hM, hP, hF⟩ := h
  have keyW : ∀ (g : Nat → Int32), rW T (gs_st (gs_st σ 3 (upd (σ 3) (4 * s + c) 1)) 4 g) (gs_st (gs_st τ 3 (upd (τ 3) (4 * s + c) 1)) 4 (upd (τ 4) (4 * s + c) 0)) := by
    intro g i hi
    obtain ⟨w1, w2, w3, w4⟩ := hW i hi
    refine ⟨w1, w2, ?_, ?_⟩
    · show upd (σ 3) (4 * s + c) 1 i = upd (τ 3) (4 * s + c) 1 i
      by_cases hq : i = 4 * s + c
      · rw [hq, pk_us, pk_us]
      · rw [pk_un hq, pk_un hq]; exact w3
    · show upd (τ 3) (4 * s + c) 1 i = 0 ∨ upd (τ 3) (4 * s + c) 1 i = 1
      by_cases hq : i = 4 * s + c
      · rw [hq, pk_us]; exact Or.inr rfl
      · rw [pk_un hq]; exact w4
  obtain ⟨m, m1, m2, m3, m4⟩ := hM s hs
  have keyM : ∀ (g : Nat → Int32) (m' : Nat), m' ≤ 4 → m' ≠ c → (m' ≠ 4 → m' = m) → (m ≠ c → m' = m) → g s = nI m' → (∀ j, j ≠ s → g j = σ 4 j) → rM T (gs_st (gs_st σ 3 (upd (σ 3) (4 * s + c) 1)) 4 g) (gs_st (gs_st τ 3 (upd (τ 3) (4 * s + c) 1)) 4 (upd (τ 4) (4 * s + c) 0)) := by
    intro g m' q1 q2 q3 q4 q5 q6 j hj
    by_cases hjs : j = s
    · subst hjs
      refine ⟨m', q1, q5, fun c' hc' => ?_, fun hm' => ?_⟩
      · show upd (τ 4) (4 * j + c) 0 (4 * j + c') = if m' = c' then 1 else 0
        by_cases hcc : c' = c
        · rw [hcc, pk_us, if_neg q2]
        · rw [pk_un (by omega), m3 c' hc']
          by_cases hmc : m = c
          · rw [if_neg (by omega), if_neg (by omega)]
          · rw [q4 hmc]
      · show upd (τ 3) (4 * j + c) 1 (4 * j + m') = 0
        rw [pk_un (by omega), q3 (by omega)]
        exact m4 (by rw [← q3 (by omega)]; exact hm')
    · obtain ⟨n, n1, n2, n3, n4⟩ := hM j hj
      refine ⟨n, n1, (q6 j hjs).trans n2, fun c' hc' => ?_, fun hn => ?_⟩
      · show upd (τ 4) (4 * s + c) 0 (4 * j + c') = if n = c' then 1 else 0
        rw [pk_un (by omega)]; exact n3 c' hc'
      · show upd (τ 3) (4 * s + c) 1 (4 * j + n) = 0
        rw [pk_un (by omega)]; exact n4 hn
  by_cases hmc : m = c
  · have hq : σ 4 s = nI c := by rw [m2, hmc]
    refine ⟨gs_st (gs_st σ 3 (upd (σ 3) (4 * s + c) 1)) 4 (upd (σ 4) s 4), ?_, hN, keyW _, hX, keyM _ 4 (by omega) (by omega) (fun q => absurd rfl q) (fun q => absurd hmc q) pk_us (fun j hj => pk_un hj), hP, hF⟩
    simp (disch := omega) only [fn_X1_lose, a_place, gob, g1, g2, glt, nb1]
    rw [show gs_st σ 3 (upd (σ 3) (4 * s + c) 1) 4 s = nI c from hq, if_pos rfl]
    rfl
  · have hq : ¬ σ 4 s = nI c := by rw [m2]; exact nI_ne hmc (by omega) (by omega)
    have e4 : gs_st (gs_st σ 3 (upd (σ 3) (4 * s + c) 1)) 4 (σ 4) = gs_st σ 3 (upd (σ 3) (4 * s + c) 1) := by
      funext k
      by_cases hk : k = 4
      · rw [hk, st_s]; rfl
      · rw [st_n hk]
    refine ⟨gs_st σ 3 (upd (σ 3) (4 * s + c) 1), ?_, ?_⟩
    · simp (disch := omega) only [fn_X1_lose, a_place, gob, g1, g2, glt, nb1]
      rw [if_neg (show ¬ gs_st σ 3 (upd (σ 3) (4 * s + c) 1) 4 s = nI c from hq)]
    · rw [← e4]
      exact ⟨hN, keyW _, hX, keyM _ m m1 hmc (fun _ => rfl) (fun _ => rfl) m2 (fun _ _ => rfl), hP, hF⟩
/-- the four columns of one stripe, on both sides -/
theorem failIn {T s d : Nat} (hs : s < T) (hd : d < 7) (K : Int32 → Int32 → Int32 → gS → Option (Int32 × gS)) : ∀ (k c mA a : Nat) (σ τ : gS), c + k = 4 → k < mA → RR T σ τ → ∃ (a1 : Nat) (σ1 τ1 : gS), a1 ≤ a + k ∧ fn_X1_takeOut_L22 T K mA (nI d) (nI a) (nI s) (nI c) σ = K (nI d) (nI a1) (nI (s + 1)) σ1 ∧ (∀ m, fn_X3_fail_L31 T (m + k) (nI d) (nI a) (nI (4 * s + c)) τ = fn_X3_fail_L31 T m (nI d) (nI a1) (nI (4 * s + 4)) τ1) ∧ RR T σ1 τ1 := by
  intro k
  induction k with
  | zero =>
    intro c mA a σ τ h1 h2 hR
    obtain ⟨mA, rfl⟩ : ∃ n', mA = n' + 1 := ⟨mA - 1, by omega⟩
    refine ⟨a, σ, τ, by omega, ?_, fun m => ?_, hR⟩
    · rw [fn_X1_takeOut_L22, show c = 4 by omega, if_pos (show (4 : Int32) ≤ nI 4 by decide), li1, nI_add]
    · rw [show c = 4 by omega]; rfl
  | succ k ih =>
    intro c mA a σ τ h1 h2 hR
    have hT := rr_T hR
    obtain ⟨mA, rfl⟩ : ∃ n', mA = n' + 1 := ⟨mA - 1, by omega⟩
    have hc : c < 4 := by omega
    have hi : 4 * s + c < 4 * T := by omega
    obtain ⟨r, er, hr⟩ := b_on (T := T) (τ := τ) (show 4 * s + c < 84 by omega)
    have hr := hr d hd
    rcases nOn_01 τ d (4 * s + c) with q | q
    · obtain ⟨a1, σ1, τ1, e0, e1, e2, hR1⟩ := ih (c + 1) mA a σ τ (by omega) (by omega) hR
      refine ⟨a1, σ1, τ1, by omega, ?_, fun m => ?_, hR1⟩
      · rw [fn_X1_takeOut_L22, li4, if_neg (nI_ge (by omega) (by omega)), a_isOn hR hs hc hd, gob, q, if_pos (show nI 0 = 0 from rfl), li1, nI_add]
        exact e1
      · rw [show m + (k + 1) = (m + k) + 1 by omega, fn_X3_fail_L31, rr_t0 hR, li4, pk_mul, if_neg (nI_ge (by omega) (by omega)), er, gob, if_neg (fun z => by rw [hr.mp z] at q; omega), li1, nI_add]
        exact e2 m
    · obtain ⟨σ', es, hR'⟩ := rr_lose hR hs hc
      obtain ⟨a1, σ1, τ1, e0, e1, e2, hR1⟩ := ih (c + 1) mA (a + 1) σ' _ (by omega) (by omega) hR'
      refine ⟨a1, σ1, τ1, by omega, ?_, fun m => ?_, hR1⟩
      · rw [fn_X1_takeOut_L22, li4, if_neg (nI_ge (by omega) (by omega)), a_isOn hR hs hc hd, gob, q, if_neg e10n, es, gob, li1, nI_add, nI_add]
        exact e1
      · rw [show m + (k + 1) = (m + k) + 1 by omega, fn_X3_fail_L31, rr_t0 hR, li4, pk_mul, if_neg (nI_ge (by omega) (by omega)), er, gob, if_pos (hr.mpr q)]
        simp (disch := omega) only [g1, g2, glt, nb1, nb0, li1, nI_add]
        exact e2 m
theorem failOut {T d : Nat} (hd : d < 7) : ∀ (k s mA mB a : Nat) (σ τ : gS), s + k = T → k < mA → 4 * k < mB → a ≤ 4 * s → RR T σ τ → ∃ (r : Int32) (σ1 τ1 : gS), fn_X1_takeOut_L11 T mA (nI d) (nI a) (nI s) σ = some (r, σ1) ∧ fn_X3_fail_L31 T mB (nI d) (nI a) (nI (4 * s)) τ = some (r, τ1) ∧ RR T σ1 τ1 := by
  intro k
  induction k with
  | zero =>
    intro s mA mB a σ τ h1 h2 h3 h4 hR
    have hT := rr_T hR
    obtain ⟨mA, rfl⟩ : ∃ n', mA = n' + 1 := ⟨mA - 1, by omega⟩
    obtain ⟨mB, rfl⟩ : ∃ n', mB = n' + 1 := ⟨mB - 1, by omega⟩
    refine ⟨nI a, σ, τ, ?_, ?_, hR⟩
    · rw [fn_X1_takeOut_L11, rr_s6 hR, if_pos (nI_le (by omega) (by omega))]
    · rw [fn_X3_fail_L31, rr_t0 hR, li4, pk_mul, if_pos (nI_le (by omega) (by omega))]
  | succ k ih =>
    intro s mA mB a σ τ h1 h2 h3 h4 hR
    have hT := rr_T hR
    obtain ⟨mA, rfl⟩ : ∃ n', mA = n' + 1 := ⟨mA - 1, by omega⟩
    obtain ⟨mB, rfl⟩ : ∃ n', mB = n' + 4 := ⟨mB - 4, by omega⟩
    obtain ⟨a1, σ1, τ1, e0, e1, e2, hR1⟩ := failIn (T := T) (s := s) (d := d) (by omega) hd (fn_X1_takeOut_L11 T mA) 4 0 gs_fu a σ τ rfl (by rw [fu_e]; omega) hR
    obtain ⟨r, σ2, τ2, f1, f2, hR2⟩ := ih (s + 1) mA mB a1 σ1 τ1 (by omega) (by omega) (by omega) (by omega) hR1
    refine ⟨r, σ2, τ2, ?_, ?_, hR2⟩
    · rw [fn_X1_takeOut_L11, rr_s6 hR, if_neg (nI_ge (by omega) (by omega)), ← f1, ← e1]; rfl
    · rw [← f2, show 4 * (s + 1) = 4 * s + 4 by omega, ← e2 mB]; rfl
theorem sim_fail {T : Nat} (_ : T = 7 ∨ T = 14 ∨ T = 21) : sm1 (fn_X2_fail T) (fn_X3_fail T) (RR T) := by
  intro σ τ a hR
  have hT := rr_T hR
  rcases ix a 7 (by omega) with ho | ⟨d, hd, rfl⟩
  · refine ⟨-1, σ, τ, ?_, ?_, hR⟩
    · simp only [fn_X2_fail, a_isDisk_no ho, gob, if_true]
    · simp only [fn_X3_fail, li7, b_in_no ho, gob, if_true]
  · rcases rr_p hR hd with ⟨h1, h2⟩ | ⟨h1, h2⟩
    · have hR' := rr_pres (d := d) (v := 0) (w := 1) hR (Or.inr ⟨rfl, rfl⟩)
      obtain ⟨r, σ1, τ1, e1, e2, hR1⟩ := failOut hd T 0 gs_fu gs_fu 0 _ _ (by omega) (by rw [fu_e]; omega) (by rw [fu_e]; omega) (by omega) hR'
      refine ⟨r, σ1, τ1, ?_, ?_, hR1⟩
      · simp (disch := omega) only [fn_X2_fail, a_isDisk_in hd, gob, fn_X1_isPresent, fn_X1_takeOut, g1, g2, h1, gs_bz_1, if_neg e10, glt, nb0]
        rw [show fn_X1_takeOut_L11 T gs_fu (nI d) 0 0 (gs_st σ 0 (upd (σ 0) d 0)) = some (r, σ1) from e1]; rfl
      · simp (disch := omega) only [fn_X3_fail, li7, b_in_in hd, gob, if_neg e10, g1, g2, h2, if_true, glt, nb1]
        exact e2
    · refine ⟨-1, σ, τ, ?_, ?_, hR⟩
      · simp (disch := omega) only [fn_X2_fail, a_isDisk_in hd, gob, fn_X1_isPresent, g1, g2, h1, gs_bz_0, if_neg e10, if_true]
      · simp (disch := omega) only [fn_X3_fail, li7, b_in_in hd, gob, if_neg e10, g1, g2, h2]
/-! disk -/
theorem a_cellsIn {T s d : Nat} {σ τ : gS} (hR : RR T σ τ) (hs : s < T) (hd : d < 7) (K : Int32 → Int32 → Int32 → gS → Option (Int32 × gS)) (a : Nat) : fn_X1_cellsOn_L15 T K gs_fu (nI d) (nI a) (nI s) (nI 0) σ = K (nI d) (nI (a + cS (nOn τ d) (4 * s) 4)) (nI (s + 1)) σ := by
  have h := lp_cnt (fun n i a => fn_X1_cellsOn_L15 T K n (nI d) (nI a) (nI s) (nI i) σ) (fun a => K (nI d) (nI a) (nI (s + 1)) σ) (fun c => nOn τ d (4 * s + c)) 4 (fun n i a hi => ?_) (fun n a => ?_) 4 gs_fu 0 a rfl (by rw [fu_e]; omega)
  · rw [cS_shift, Nat.add_zero] at h; exact h
  · show fn_X1_cellsOn_L15 T K (n + 1) (nI d) (nI a) (nI s) (nI i) σ = fn_X1_cellsOn_L15 T K n (nI d) (nI (a + nOn τ d (4 * s + i))) (nI s) (nI (i + 1)) σ
    rw [fn_X1_cellsOn_L15, li4, if_neg (nI_ge (by omega) (by omega)), a_isOn hR hs hi hd, gob]
    rcases nOn_01 τ d (4 * s + i) with q | q <;> rw [q]
    · rw [if_pos (show nI 0 = 0 from rfl), li1, nI_add]; rfl
    · rw [if_neg e10n, li1, nI_add, nI_add]
  · show fn_X1_cellsOn_L15 T K (n + 1) (nI d) (nI a) (nI s) (nI 4) σ = _
    rw [fn_X1_cellsOn_L15, if_pos (show (4 : Int32) ≤ nI 4 by decide), li1, nI_add]
theorem a_cellsOn {T d : Nat} {σ τ : gS} (hR : RR T σ τ) (hd : d < 7) : fn_X1_cellsOn T (nI d) σ = some (nI (cS (nOn τ d) 0 (4 * T)), σ) := by
  have hT := rr_T hR
  have key : ∀ (k s n a : Nat), s + k = T → k < n → fn_X1_cellsOn_L4 T n (nI d) (nI a) (nI s) σ = some (nI (a + cS (nOn τ d) (4 * s) (4 * k)), σ) := by
    intro k
    induction k with
    | zero =>
      intro s n a h1 h2
      obtain ⟨n, rfl⟩ : ∃ n', n = n' + 1 := ⟨n - 1, by omega⟩
      rw [fn_X1_cellsOn_L4, rr_s6 hR, if_pos (nI_le (by omega) (by omega))]; rfl
    | succ k ih =>
      intro s n a h1 h2
      obtain ⟨n, rfl⟩ : ∃ n', n = n' + 1 := ⟨n - 1, by omega⟩
      rw [fn_X1_cellsOn_L4, rr_s6 hR, if_neg (nI_ge (by omega) (by omega)), li0, a_cellsIn hR (by omega) hd, ih (s + 1) n _ (by omega) (by omega), show 4 * (k + 1) = 4 + 4 * k by omega, cS_app, show 4 * (s + 1) = 4 * s + 4 by omega, Nat.add_assoc]
  have h := key T 0 gs_fu 0 (by omega) (by rw [fu_e]; omega)
  rw [Nat.zero_add] at h
  exact h
/-- is a moved column's cell on disk d -/
def nMv (τ : gS) (d i : Nat) : Nat := if nOn τ d i = 1 then (if τ 4 i = 0 then 0 else 1) else 0
theorem nMv_01 (τ : gS) (d i : Nat) : nMv τ d i = 0 ∨ nMv τ d i = 1 := by
  unfold nMv
  split
  · split
    · exact Or.inl rfl
    · exact Or.inr rfl
  · exact Or.inl rfl
theorem nMv_4 {T s d : Nat} {σ τ : gS} (hR : RR T σ τ) (hs : s < T) (hd : d < 7) : cS (nMv τ d) (4 * s) 4 = if σ 4 s = nI 4 then 0 else if d = s % 7 then 1 else 0 := by
  obtain ⟨m, m1, m2, m3, m4⟩ := hR.2.2.2.1 s hs
  have hz : ∀ c, c < 4 → nMv τ d (4 * s + c) = if m = c then (if d = s % 7 then 1 else 0) else 0 := by
    intro c hc
    unfold nMv
    by_cases hmc : m = c
    · subst hmc
      have h4 := m3 m hc
      rw [if_pos rfl] at h4
      rw [if_pos rfl]
      unfold nOn
      rw [if_pos (m4 hc), h4, if_neg e10, if_neg e10, show (4 * s + m) / 4 = s by omega]
      by_cases hq : d = s % 7
      · rw [if_pos hq, if_pos rfl]
      · rw [if_neg hq, if_neg (by omega)]
    · have h4 := m3 c hc
      rw [if_neg hmc] at h4
      rw [if_neg hmc, h4, if_pos rfl]
      split <;> rfl
  show nMv τ d (4 * s) + (nMv τ d (4 * s + 1) + (nMv τ d (4 * s + 2) + (nMv τ d (4 * s + 3) + 0))) = _
  rw [show nMv τ d (4 * s) = nMv τ d (4 * s + 0) from rfl, hz 0 (by omega), hz 1 (by omega), hz 2 (by omega), hz 3 (by omega), m2]
  rcases (show m = 0 ∨ m = 1 ∨ m = 2 ∨ m = 3 ∨ m = 4 by omega) with rfl | rfl | rfl | rfl | rfl
  · rw [if_neg (show ¬ nI 0 = nI 4 by decide)]; simp
  · rw [if_neg (show ¬ nI 1 = nI 4 by decide)]; simp
  · rw [if_neg (show ¬ nI 2 = nI 4 by decide)]; simp
  · rw [if_neg (show ¬ nI 3 = nI 4 by decide)]; simp
  · rw [if_pos rfl]; simp
theorem a_movedCellsOn {T d : Nat} {σ τ : gS} (hR : RR T σ τ) (hd : d < 7) : fn_X1_movedCellsOn T (nI d) σ = some (nI (cS (nMv τ d) 0 (4 * T)), σ) := by
  have hT := rr_T hR
  have key : ∀ (k s n a : Nat), s + k = T → k < n → fn_X1_movedCellsOn_L4 T n (nI d) (nI a) (nI s) σ = some (nI (a + cS (nMv τ d) (4 * s) (4 * k)), σ) := by
    intro k
    induction k with
    | zero =>
      intro s n a h1 h2
      obtain ⟨n, rfl⟩ : ∃ n', n = n' + 1 := ⟨n - 1, by omega⟩
      rw [fn_X1_movedCellsOn_L4, rr_s6 hR, if_pos (nI_le (by omega) (by omega))]; rfl
    | succ k ih =>
      intro s n a h1 h2
      obtain ⟨n, rfl⟩ : ∃ n', n = n' + 1 := ⟨n - 1, by omega⟩
      rw [show 4 * (k + 1) = 4 + 4 * k by omega, cS_app, show 4 * s + 4 = 4 * (s + 1) by omega, ← Nat.add_assoc, ← ih (s + 1) n _ (by omega) (by omega), nMv_4 hR (by omega) hd]
      rw [fn_X1_movedCellsOn_L4, rr_s6 hR, if_neg (nI_ge (by omega) (by omega))]
      simp (disch := omega) only [g1, g2, a_spare, gob]
      rw [li4]
      by_cases h4 : σ 4 s = nI 4
      · rw [if_pos h4, if_pos h4, li1, nI_add]; rfl
      · rw [if_neg h4, if_neg h4]
        by_cases hq : d = s % 7
        · rw [if_pos hq, if_pos (by rw [hq]), li1, nI_add, nI_add]
        · rw [if_neg hq, if_neg (nI_ne (fun z => hq z.symm) (by omega) (by omega)), li1, nI_add]; rfl
  have h := key T 0 gs_fu 0 (by omega) (by rw [fu_e]; omega)
  rw [Nat.zero_add] at h
  exact h
theorem b_disk {T d w : Nat} {τ : gS} (hT : T ≤ 21) (h0 : τ 0 0 = nI T) (hd : d < 7) (p : Nat → Nat) (hp : ∀ i, i < 4 * T → p i = if w = 1 then nOn τ d i else nMv τ d i) (hw : w = 1 ∨ w = 2) : fn_X3_disk_L43 T gs_fu (nI d) (nI w) 0 0 τ = some (nI (cS p 0 (4 * T)), τ) := by
  have h := lp_cnt (fun n i a => fn_X3_disk_L43 T n (nI d) (nI w) (nI a) (nI i) τ) (fun a => some (nI a, τ)) p (4 * T) (fun n i a hi => ?_) (fun n a => ?_) (4 * T) gs_fu 0 0 (by omega) (by rw [fu_e]; omega)
  · rw [Nat.zero_add] at h; exact h
  · show fn_X3_disk_L43 T (n + 1) (nI d) (nI w) (nI a) (nI i) τ = fn_X3_disk_L43 T n (nI d) (nI w) (nI (a + p i)) (nI (i + 1)) τ
    obtain ⟨r, er, hr⟩ := b_on (T := T) (τ := τ) (show i < 84 by omega)
    have hr := hr d hd
    rw [fn_X3_disk_L43, h0, li4, pk_mul, if_neg (nI_ge (by omega) (by omega)), er, gob, hp i hi]
    rcases hw with rfl | rfl
    · rw [if_pos (show nI 1 = 1 from rfl), if_pos rfl]
      rcases nOn_01 τ d i with q | q
      · rw [if_neg (fun z => by rw [hr.mp z] at q; omega), q, li1, nI_add]; rfl
      · rw [if_pos (hr.mpr q), q, li1, nI_add, nI_add]
    · rw [if_neg (show ¬ nI 2 = 1 by decide), if_neg (show ¬ (2 : Nat) = 1 by decide)]
      unfold nMv
      rcases nOn_01 τ d i with q | q
      · rw [if_neg (show ¬ r = nI d from fun z => by rw [hr.mp z] at q; omega), if_neg (show ¬ nOn τ d i = 1 by omega), li1, nI_add]; rfl
      · rw [if_pos (hr.mpr q), if_pos q, g1 (by omega) (by omega), g2 (by omega)]
        by_cases h4 : τ 4 i = 0
        · rw [if_pos h4, if_pos h4, li1, nI_add]; rfl
        · rw [if_neg h4, if_neg h4, li1, nI_add, nI_add]
  · show fn_X3_disk_L43 T (n + 1) (nI d) (nI w) (nI a) (nI (4 * T)) τ = _
    rw [fn_X3_disk_L43, h0, li4, pk_mul, if_pos (nI_le (by omega) (by omega))]
theorem sim_disk {T : Nat} (_ : T = 7 ∨ T = 14 ∨ T = 21) : sm2 (fn_X2_disk T) (fn_X3_disk T) (RR T) := by
  intro σ τ a b hR
  have hT := rr_T hR
  rcases ix a 7 (by omega) with ho | ⟨d, hd, rfl⟩
  · refine ⟨-1, σ, τ, ?_, ?_, hR⟩
    · simp only [fn_X2_disk, a_isDisk_no ho, gob, if_true]
    · simp only [fn_X3_disk, li7, b_in_no ho, gob, if_true]
  · rcases ix b 3 (by omega) with ho | ⟨w, hw, rfl⟩
    · have n0 : ¬ b = 0 := fun q => by subst q; revert ho; decide
      have n1 : ¬ b = 1 := fun q => by subst q; revert ho; decide
      have n2 : ¬ b = 2 := fun q => by subst q; revert ho; decide
      refine ⟨-1, σ, τ, ?_, ?_, hR⟩
      · simp only [fn_X2_disk, a_isDisk_in hd, gob, if_neg e10, if_neg n0, if_neg n1, if_neg n2]
      · simp (disch := omega) only [fn_X3_disk, li7, b_in_in hd, li3, b_in_no ho, gob, if_neg e10, if_true]
    · rcases (show w = 0 ∨ w = 1 ∨ w = 2 by omega) with rfl | rfl | rfl
      · rcases rr_p hR hd with ⟨h1, h2⟩ | ⟨h1, h2⟩
        · refine ⟨1, σ, τ, ?_, ?_, hR⟩
          · simp (disch := omega) only [fn_X2_disk, a_isDisk_in hd, gob, if_neg e10, if_pos (show nI 0 = 0 from rfl), fn_X1_isPresent, g1, g2, h1, gs_bz_1]
          · simp (disch := omega) only [fn_X3_disk, li7, b_in_in hd, li3, b_in_in hw, gob, if_neg e10, if_pos (show nI 0 = 0 from rfl), g1, g2, h2, if_true]
        · refine ⟨0, σ, τ, ?_, ?_, hR⟩
          · simp (disch := omega) only [fn_X2_disk, a_isDisk_in hd, gob, if_neg e10, if_pos (show nI 0 = 0 from rfl), fn_X1_isPresent, g1, g2, h1, gs_bz_0, if_true]
          · simp (disch := omega) only [fn_X3_disk, li7, b_in_in hd, li3, b_in_in hw, gob, if_neg e10, if_pos (show nI 0 = 0 from rfl), g1, g2, h2]
      · refine ⟨nI (cS (nOn τ d) 0 (4 * T)), σ, τ, ?_, ?_, hR⟩
        · simp (disch := omega) only [fn_X2_disk, a_isDisk_in hd, gob, if_neg e10, if_neg e10n, if_pos (show nI 1 = 1 from rfl), a_cellsOn hR hd]
        · simp (disch := omega) only [fn_X3_disk, li7, b_in_in hd, li3, b_in_in hw, gob, if_neg e10, if_neg e10n]
          exact b_disk hT.2 (rr_t0 hR) hd _ (fun i hi => by rw [if_pos rfl]) (Or.inl rfl)
      · refine ⟨nI (cS (nMv τ d) 0 (4 * T)), σ, τ, ?_, ?_, hR⟩
        · simp (disch := omega) only [fn_X2_disk, a_isDisk_in hd, gob, if_neg e10, if_neg (show ¬ nI 2 = 0 by decide), if_neg (show ¬ nI 2 = 1 by decide), if_pos (show nI 2 = 2 from rfl), a_movedCellsOn hR hd]
        · simp (disch := omega) only [fn_X3_disk, li7, b_in_in hd, li3, b_in_in hw, gob, if_neg e10, if_neg (show ¬ nI 2 = 0 by decide)]
          exact b_disk hT.2 (rr_t0 hR) hd _ (fun i hi => by rw [if_neg (show ¬ (2 : Nat) = 1 by decide)]) (Or.inr rfl)
