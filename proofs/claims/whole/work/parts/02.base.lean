/-! THE BASE: states as tables of Int32, pure steps into Option, and the rows of calls and returns over one world (own work) -/
abbrev gS : Type := Nat → Nat → Int32
def gs_st (σ : gS) (k : Nat) (f : Nat → Int32) : gS := fun j => cond (Nat.beq j k) f (σ j)
/-- the fuel of every loop: more turns than any loop makes -/
def gs_fu : Nat := 200
def gs_ob {α β : Type} (x : Option (α × gS)) (g : α → gS → Option β) : Option β := match x with
  | none => none
  | some q => g q.1 q.2
theorem gs_ob_e {α β : Type} {x : Option (α × gS)} {g : α → gS → Option β} {y : β} (h : gs_ob x g = some y) : ∃ (a : α) (u : gS), x = some (a, u) ∧ g a u = some y := by
  cases x with
  | none => exact absurd h (fun q => by cases q)
  | some q => exact ⟨q.1, q.2, rfl, h⟩
theorem gs_ob_s {α β : Type} {x : Option (α × gS)} {g : α → gS → Option β} {a : α} {u : gS} (h : x = some (a, u)) : gs_ob x g = g a u := by
  rw [h]; rfl
def gs_gd {β : Type} (i : Int32) (n : Nat) (x : Option β) : Option β := if i < 0 ∨ n ≤ i.toNatClampNeg then none else x
theorem gs_gd_e {β : Type} {i : Int32} {n : Nat} {x : Option β} {y : β} (h : gs_gd i n x = some y) : vp_in i n ∧ x = some y := by
  unfold gs_gd at h
  by_cases q : i < 0 ∨ n ≤ i.toNatClampNeg
  · rw [if_pos q] at h; cases h
  · rw [if_neg q] at h; exact ⟨q, h⟩
theorem gs_gd_s {β : Type} {i : Int32} {n : Nat} {x : Option β} (h : vp_in i n) : gs_gd i n x = x := if_neg h
def gs_dv {β : Type} (d : Int32) (x : Option β) : Option β := if d = 0 then none else x
theorem gs_dv_e {β : Type} {d : Int32} {x : Option β} {y : β} (h : gs_dv d x = some y) : ¬ d = 0 ∧ x = some y := by
  unfold gs_dv at h
  by_cases q : d = 0
  · rw [if_pos q] at h; cases h
  · rw [if_neg q] at h; exact ⟨q, h⟩
def gs_bz {β : Type} (v : Int32) (x : Option β) : Option β := if v &&& 1 = v then x else none
theorem gs_bz_e {β : Type} {v : Int32} {x : Option β} {y : β} (h : gs_bz v x = some y) : narrow .boolean (.int v) = .int v ∧ x = some y := by
  unfold gs_bz at h
  by_cases q : v &&& 1 = v
  · rw [if_pos q] at h; exact ⟨congrArg Value.int q, h⟩
  · rw [if_neg q] at h; cases h
theorem gs_bz_0 {β : Type} {x : Option β} : gs_bz 0 x = x := if_pos (by decide)
theorem gs_bz_1 {β : Type} {x : Option β} : gs_bz 1 x = x := if_pos (by decide)
def gs_lt {β : Type} (u : gS) (g : gS → Option β) : Option β := g u
theorem gs_lt_e {β : Type} {u : gS} {g : gS → Option β} {y : β} (h : gs_lt u g = some y) : ∃ v : gS, v = u ∧ g v = some y := ⟨u, rfl, h⟩
theorem gs_t {β : Type} {c : Prop} [Decidable c] {a b y : β} (h : (if c then a else b) = y) (hc : c) : a = y := by
  rw [if_pos hc] at h; exact h
theorem gs_f {β : Type} {c : Prop} [Decidable c] {a b y : β} (h : (if c then a else b) = y) (hc : ¬ c) : b = y := by
  rw [if_neg hc] at h; exact h
/-- what a method finds: its size, its world, the tables, and what Z says of statics -/
def uPre (D : va_G) (cl : List vw_C) (tys : List (ClassId × FieldType)) (w : gS → va_W) (Z : (Nat → Prop) → State → Heap → Prop) (σ : gS) (sz : Nat) (U : State) : Prop := U.heap.size = sz ∧ va_P D cl (w σ) U.heap ∧ va_K D cl tys U ∧ va_D (fun _ => True) (w σ) ∧ Z (va_A (w σ) sz) U U.heap
def uAt (D : va_G) (cl : List vw_C) (tys : List (ClassId × FieldType)) (w : gS → va_W) (A : Nat → Prop) (u : gS) (t : State) : Prop := va_P D cl (w u) t.heap ∧ va_K D cl tys t ∧ va_D A (w u)
def uZg (Z : (Nat → Prop) → State → Heap → Prop) : Prop := (∀ (A : Nat → Prop) (U : State) (g : JFrame) (mk : MethodId) (a : Array Value), Z A U U.heap → Z A (U.calling g mk a) U.heap) ∧ ∀ (A B : Nat → Prop) (s U : State) (H H1 : Heap), s.WarmedH U.vm → Z A s H → (∀ q, B q → A q) → (∀ q : Nat, q < H.size → ¬ A q → H1[q]? = H[q]?) → Z B U H1
theorem u_free {A : Nat → Prop} {ws : va_W} {H0 H : Heap} {locs : List Loc} (hD : va_D A ws) (hS : va_S A H0 H locs) (hA : ∀ q, H0.size ≤ q → A q) : ∀ q, va_A ws H.size q → A q := by
  intro q h
  rcases h with ⟨k, e, h⟩ | h
  · exact hD.2 k (q, e) h
  · exact hA q (Nat.le_trans hS.1 h)
theorem u_preS {D : va_G} {cl : List vw_C} {tys : List (ClassId × FieldType)} {w : gS → va_W} {Z : (Nat → Prop) → State → Heap → Prop} {σ : gS} {s : State} {H : Heap} {A : Nat → Prop} {locs : List Loc} {As : List Value} (gZ : uZg Z) (hK : va_K D cl tys s) (hP : va_P D cl (w σ) H) (hD : va_D A (w σ)) (hS : va_S A s.heap H locs) (hF : ∀ q, va_A (w σ) H.size q → A q) (hZ : Z A s s.heap) : PreS s H (va_Pc As (uPre D cl tys w Z σ H.size)) As := by
  refine ⟨fun a U g mk q => ?_, fun U hU hW => ?_⟩
  · obtain ⟨q0, q1, q2, q3, q4, q5⟩ := q
    exact ⟨q0, q1, q2, va_K.moved (u := U) (U := U.calling g mk a) (Vm.Alike.refl U.vm) q3, q4, gZ.1 _ U g mk a q5⟩
  · refine ⟨rfl, by rw [hU], by rw [hU]; exact hP, va_K.moved hW.alike hK, hD.weaken (fun _ _ _ _ => trivial), ?_⟩
    rw [hU]
    exact gZ.2 A _ s U s.heap H hW hZ hF (fun q h1 h2 => hS.2.1 q h1 h2)
theorem u_preV {D : va_G} {cl : List vw_C} {tys : List (ClassId × FieldType)} {w : gS → va_W} {Z : (Nat → Prop) → State → Heap → Prop} {σ : gS} {s : State} {H : Heap} {A : Nat → Prop} {locs : List Loc} {As : List Value} {C : String} {b : Addr} (gZ : uZg Z) (hK : va_K D cl tys s) (hP : va_P D cl (w σ) H) (hD : va_D A (w σ)) (hS : va_S A s.heap H locs) (hF : ∀ q, va_A (w σ) H.size q → A q) (hZ : Z A s s.heap) (hR : ∃ cellB : Cell, H[b]? = some cellB ∧ cellB.vm.isStatics = false ∧ s.vm.findClass C = some cellB.cls) : PreV s H C b (va_Pc (.ref b :: As) (uPre D cl tys w Z σ H.size)) As :=
  have hp := u_preS (As := .ref b :: As) gZ hK hP hD hS hF hZ
  ⟨hp.1, hR, hp.2⟩
section UBASE
variable {p : Program} {l : Launch} {e : Env} {R : Room} {s : State} {m : MethodId} {args : Array Value} {below : List Frame} {meth : Method} {c : Code} {H : Heap} {locs : List Loc} {cells slots : Nat} {Q : State → Prop}
variable {pc : Nat} {ls : Array Slot} {rest st0 : List Value} {a : Array Value} {A : Nat → Prop} {H0 : Heap} {D : va_G} {cl : List vw_C} {tys : List (ClassId × FieldType)} {w : gS → va_W} {σ σ1 : gS}
theorem u_calli {r1 : Int32} (hr : va_Run p l e R s m args below meth c H locs cells slots 0 0 (F0 m pc ls st0) rest (va_Qi (fun r u => (r, u) = (r1, σ1)) (uAt D cl tys w (va_A (w σ) H.size)) (va_A (w σ) H.size) a) (va_A (w σ) H.size)) (hS : va_S A H0 H locs) (hF : ∀ q, va_A (w σ) H.size q → A q)
    (kk : ∀ (H1 : Heap) (locs1 : List Loc), va_P D cl (w σ1) H1 → va_D A (w σ1) → va_S A H0 H1 locs1 → W p l e R s m args below meth c H1 locs1 cells slots Q (F0 m (pc + 3) ls (.int r1 :: rest))) : W p l e R s m args below meth c H locs cells slots Q (F0 m pc ls st0) := by
  refine va_calli hr hS (fun q _ h => hF q h) hF (fun r u t H1 locs1 ht hvm hw hB hz hk hS1 => ?_)
  cases hw
  obtain ⟨hP1, hK1, hD1⟩ := hB
  rw [ht] at hP1
  exact kk H1 locs1 hP1 (hD1.weaken (fun _ q _ h => hF q.1 h)) hS1
theorem u_calll {r1 : Int64} (hr : va_Run p l e R s m args below meth c H locs cells slots 0 0 (F0 m pc ls st0) rest (va_Ql (fun r u => (r, u) = (r1, σ1)) (uAt D cl tys w (va_A (w σ) H.size)) (va_A (w σ) H.size) a) (va_A (w σ) H.size)) (hS : va_S A H0 H locs) (hF : ∀ q, va_A (w σ) H.size q → A q)
    (kk : ∀ (H1 : Heap) (locs1 : List Loc), va_P D cl (w σ1) H1 → va_D A (w σ1) → va_S A H0 H1 locs1 → W p l e R s m args below meth c H1 locs1 cells slots Q (F0 m (pc + 3) ls (.long r1 :: rest))) : W p l e R s m args below meth c H locs cells slots Q (F0 m pc ls st0) := by
  refine va_calll hr hS (fun q _ h => hF q h) hF (fun r u t H1 locs1 ht hvm hw hB hz hk hS1 => ?_)
  cases hw
  obtain ⟨hP1, hK1, hD1⟩ := hB
  rw [ht] at hP1
  exact kk H1 locs1 hP1 (hD1.weaken (fun _ q _ h => hF q.1 h)) hS1
theorem u_callv {r1 : Int32} (hr : va_Run p l e R s m args below meth c H locs cells slots 0 0 (F0 m pc ls st0) rest (va_Qv (fun u => u = (r1, σ1).2) (uAt D cl tys w (va_A (w σ) H.size)) (va_A (w σ) H.size) a) (va_A (w σ) H.size)) (hS : va_S A H0 H locs) (hF : ∀ q, va_A (w σ) H.size q → A q)
    (kk : ∀ (H1 : Heap) (locs1 : List Loc), va_P D cl (w σ1) H1 → va_D A (w σ1) → va_S A H0 H1 locs1 → W p l e R s m args below meth c H1 locs1 cells slots Q (F0 m (pc + 3) ls rest)) : W p l e R s m args below meth c H locs cells slots Q (F0 m pc ls st0) := by
  refine va_callv hr hS (fun q _ h => hF q h) hF (fun u t H1 locs1 ht hvm hw hB hz hk hS1 => ?_)
  have hw : u = σ1 := hw
  subst hw
  obtain ⟨hP1, hK1, hD1⟩ := hB
  rw [ht] at hP1
  exact kk H1 locs1 hP1 (hD1.weaken (fun _ q _ h => hF q.1 h)) hS1
theorem u_ri {v : Int32} {y : Int32 × gS} {u : gS} {t : State} (hy : (v, u) = y) (ht : t.heap = H) (hW : s.WarmedH t.vm) (hP : va_P D cl (w u) H) (hK : va_K D cl tys s) (hD : va_D A (w u)) (hS : va_S A s.heap H locs) : va_Qi (fun r u => (r, u) = y) (uAt D cl tys w A) A args s (.returned (some (.int v))) t :=
  ⟨⟨v, u, rfl, hy, by rw [ht]; exact hP, va_K.moved hW.alike hK, hD⟩, hS.F ht⟩
theorem u_rl {v : Int64} {y : Int64 × gS} {u : gS} {t : State} (hy : (v, u) = y) (ht : t.heap = H) (hW : s.WarmedH t.vm) (hP : va_P D cl (w u) H) (hK : va_K D cl tys s) (hD : va_D A (w u)) (hS : va_S A s.heap H locs) : va_Ql (fun r u => (r, u) = y) (uAt D cl tys w A) A args s (.returned (some (.long v))) t :=
  ⟨⟨v, u, rfl, hy, by rw [ht]; exact hP, va_K.moved hW.alike hK, hD⟩, hS.F ht⟩
theorem u_rv {v : Int32} {y : Int32 × gS} {u : gS} {t : State} (hy : (v, u) = y) (ht : t.heap = H) (hW : s.WarmedH t.vm) (hP : va_P D cl (w u) H) (hK : va_K D cl tys s) (hD : va_D A (w u)) (hS : va_S A s.heap H locs) : va_Qv (fun u => u = y.2) (uAt D cl tys w A) A args s (.returned none) t :=
  ⟨⟨u, rfl, by rw [← hy], by rw [ht]; exact hP, va_K.moved hW.alike hK, hD⟩, hS.F ht⟩
end UBASE
