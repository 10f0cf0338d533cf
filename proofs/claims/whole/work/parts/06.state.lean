/-- the static table of the class, and its link from the inner class -/
def tabH : Nat → Int32 := fun j => match j with
  | 0 => 2
  | 1 => 4
  | 2 => 5
  | _ => 6
def zA (A : Nat → Prop) (U : State) (H : Heap) : Prop := ∃ t : Nat, va_Z "SpreadParity" "HOME_STEPS" "[I" (.ref t) A U H ∧ va_T .int t 4 (fun j => .int (tabH j)) A U H ∧ va_Nw (.fieldLinkNest RX1 84 "SpreadParity" "HOME_STEPS" "[I" "SpreadParity") U
theorem zA_g : uZg zA := by
  refine ⟨fun A U g mk a h => ?_, fun A B s U H H1 hW h hAB hq => ?_⟩
  · obtain ⟨t, h1, h2, h3⟩ := h
    exact ⟨t, h1.moved (u := U) (U := U.calling g mk a) (Vm.Alike.refl U.vm), h2.moved (u := U) (U := U.calling g mk a) (Vm.Alike.refl U.vm), va_Nw.same rfl (rfl : U.vm = (U.calling g mk a).vm) h3⟩
  · obtain ⟨t, h1, h2, h3⟩ := h
    exact ⟨t, ((h1.kept hq).narrow hAB).moved hW.alike, ((h2.kept hq).narrow hAB).moved hW.alike, va_Nw.warmF hW h3⟩
def zB (_ : Nat → Prop) (_ : State) (_ : Heap) : Prop := True
theorem zB_g : uZg zB := ⟨fun _ _ _ _ _ h => h, fun _ _ _ _ _ _ _ h _ _ => h⟩
def wA (h : Nat → Nat) (k : Nat → ClassId) (T : Nat) (σ : gS) : va_W := [(h 0, .inr (2, [.ref (h 1), .ref (h 7)])), (h 1, .inr (1, [.int (σ 6 0), .ref (h 2), .ref (h 3), .ref (h 4), .ref (h 5), .ref (h 6), .int (σ 5 0)])), (h 2, .inl (k 0, 7, .inl (σ 0))), (h 3, .inl (k 1, 4 * T, .inl (σ 1))), (h 4, .inl (k 2, 4 * T, .inl (σ 2))), (h 5, .inl (k 3, 4 * T, .inl (σ 3))), (h 6, .inl (k 4, T, .inl (σ 4))), (h 7, .inr (0, [.ref (h 8), .ref (h 9), .ref (h 10), .ref (h 11), .ref (h 12)])), (h 8, .inl (k 5, 3 * T, .inl (σ 7))), (h 9, .inl (k 6, 8, .inl (σ 8))), (h 10, .inl (k 7, 8, .inl (σ 9))), (h 11, .inl (k 8, 24, .inl (σ 10))), (h 12, .inl (k 9, 24, .inl (σ 11)))]
def tA (k : Nat → ClassId) : List (ClassId × FieldType) := [(k 0, .boolean), (k 1, .int), (k 2, .int), (k 3, .boolean), (k 4, .int), (k 5, .boolean), (k 6, .int), (k 7, .int), (k 8, .int), (k 9, .int)]
def wB (h : Nat → Nat) (k : Nat → ClassId) (T : Nat) (σ : gS) : va_W := [(h 0, .inr (3, [.int (σ 0 0), .ref (h 1), .ref (h 2), .ref (h 3), .ref (h 4), .ref (h 5), .ref (h 6), .ref (h 7), .ref (h 8), .ref (h 9), .int (σ 10 0)])), (h 1, .inl (k 0, 84, .inl (σ 1))), (h 2, .inl (k 1, 84, .inl (σ 2))), (h 3, .inl (k 2, 84, .inl (σ 3))), (h 4, .inl (k 3, 84, .inl (σ 4))), (h 5, .inl (k 4, 7, .inl (σ 5))), (h 6, .inl (k 5, 63, .inl (σ 6))), (h 7, .inl (k 6, 24, .inl (σ 7))), (h 8, .inl (k 7, 24, .inl (σ 8))), (h 9, .inl (k 8, 8, .inl (σ 9)))]
def tB (k : Nat → ClassId) : List (ClassId × FieldType) := [(k 0, .int), (k 1, .int), (k 2, .boolean), (k 3, .boolean), (k 4, .boolean), (k 5, .int), (k 6, .int), (k 7, .int), (k 8, .int)]
