/-! L3: the reference reads SUMS as the grammar says -/
variable {K : Int32 → ST → Option ST} {x1 : Int32} {T : Int → Int} {n : Int} {m : Bool}
theorem bb {α β : Type} {x : Option α} {a : α} (h : x = some a) (k : α → Option β) : x.bind k = k a := by rw [h, bnd]
theorem isWL_ix {c : Cur} {k : Nat} (hk : k < 39) : isWL T n c (WDl k) = (isW T n c && decide (wix T n c = (k : Int))) := by
  unfold isWL
  congr 1
  exact decide_eq_decide.mpr (wix_eq hk).symm
def qwv (T : Int → Int) (n : Int) (m : Bool) (c : Cur) : Int := if isW T n c = true then (if wix T n c = 18 then 0 else if wix T n c = 19 then 1 else if wix T n c = 20 then (if m = true then 11 else 2) else if wix T n c = 21 then 3 else if wix T n c = 22 then 4 else if wix T n c = 23 then 5 else if wix T n c = 24 then 6 else if wix T n c = 25 then 7 else if wix T n c = 7 then 8 else if wix T n c = 6 then 9 else if wix T n c = 26 then 10 else -1) else -1
theorem m_qwh {c : Cur} {s : ST} (h : RLk T n c s) (hw : WDS s) (h59 : s.1 65 59 = bI (!m)) : f_X10_qWordHere s = some (Int32.ofInt (qwv T n m c), s) := by
  have a0 : f_X10_isHere 135 s = some (bI (isWL T n c (WDl 18)), s) := m_isHereL h hw (o := 135) (by unfold wce; omega)
  have a1 : f_X10_isHere 136 s = some (bI (isWL T n c (WDl 19)), s) := m_isHereL h hw (o := 136) (by unfold wce; omega)
  have a2 : f_X10_isHere 137 s = some (bI (isWL T n c (WDl 20)), s) := m_isHereL h hw (o := 137) (by unfold wce; omega)
  have a3 : f_X10_isHere 138 s = some (bI (isWL T n c (WDl 21)), s) := m_isHereL h hw (o := 138) (by unfold wce; omega)
  have a4 : f_X10_isHere 139 s = some (bI (isWL T n c (WDl 22)), s) := m_isHereL h hw (o := 139) (by unfold wce; omega)
  have a5 : f_X10_isHere 140 s = some (bI (isWL T n c (WDl 23)), s) := m_isHereL h hw (o := 140) (by unfold wce; omega)
  have a6 : f_X10_isHere 141 s = some (bI (isWL T n c (WDl 24)), s) := m_isHereL h hw (o := 141) (by unfold wce; omega)
  have a7 : f_X10_isHere 142 s = some (bI (isWL T n c (WDl 25)), s) := m_isHereL h hw (o := 142) (by unfold wce; omega)
  have a8 : f_X10_isHere 143 s = some (bI (isWL T n c (WDl 7)), s) := m_isHereL h hw (o := 143) (by unfold wce; omega)
  have a9 : f_X10_isHere 144 s = some (bI (isWL T n c (WDl 6)), s) := m_isHereL h hw (o := 144) (by unfold wce; omega)
  have a10 : f_X10_isHere 145 s = some (bI (isWL T n c (WDl 26)), s) := m_isHereL h hw (o := 145) (by unfold wce; omega)
  rw [isWL_ix (by omega)] at a0 a1 a2 a3 a4 a5 a6 a7 a8 a9 a10
  unfold qwv
  have hwb := wix_b T n c
  cases eW : isW T n c with
  | false =>
    rw [eW, Bool.false_and] at a0 a1 a2 a3 a4 a5 a6 a7 a8 a9 a10
    rw [if_neg (by decide)]
    have a0 : f_X10_isHere 135 s = some (Int32.ofInt 0, s) := a0
    have a1 : f_X10_isHere 136 s = some (Int32.ofInt 0, s) := a1
    have a2 : f_X10_isHere 137 s = some (Int32.ofInt 0, s) := a2
    have a3 : f_X10_isHere 138 s = some (Int32.ofInt 0, s) := a3
    have a4 : f_X10_isHere 139 s = some (Int32.ofInt 0, s) := a4
    have a5 : f_X10_isHere 140 s = some (Int32.ofInt 0, s) := a5
    have a6 : f_X10_isHere 141 s = some (Int32.ofInt 0, s) := a6
    have a7 : f_X10_isHere 142 s = some (Int32.ofInt 0, s) := a7
    have a8 : f_X10_isHere 143 s = some (Int32.ofInt 0, s) := a8
    have a9 : f_X10_isHere 144 s = some (Int32.ofInt 0, s) := a9
    have a10 : f_X10_isHere 145 s = some (Int32.ofInt 0, s) := a10
    simp (disch := omega) only [f_X10_qWordHere, ↓bb a0, ↓bb a1, ↓bb a2, ↓bb a3, ↓bb a4, ↓bb a5, ↓bb a6, ↓bb a7, ↓bb a8, ↓bb a9, ↓bb a10, n_i8, n_i16, n_0, n_31, n_add, n_sub, n_mul, n_neg, n_div, n_rem, n_le_t, n_le_f, n_lt_t, n_lt_f, n_eq_t, n_eq_f, n_cl, n_gd, n_gdt, n_nz, Int.reduceToNat, Int.reduceAdd, Int.reduceSub, Int.reduceMul, Int.reduceNeg, Int.reduceLT, Int.reduceLE, Int.reduceEq, Int.reduceDiv, Int.reduceMod, Nat.reduceAdd, Nat.reduceMul, ↓reduceIte]
  | true =>
    rw [eW, Bool.true_and] at a0 a1 a2 a3 a4 a5 a6 a7 a8 a9 a10
    rw [if_pos rfl]
    generalize wix T n c = w at *
    by_cases e0 : w = 18
    · subst e0
      have a0 : f_X10_isHere 135 s = some (Int32.ofInt 1, s) := a0
      simp (disch := omega) only [f_X10_qWordHere, ↓bb a0, n_i8, n_i16, n_0, n_31, n_add, n_sub, n_mul, n_neg, n_div, n_rem, n_le_t, n_le_f, n_lt_t, n_lt_f, n_eq_t, n_eq_f, n_cl, n_gd, n_gdt, n_nz, Int.reduceToNat, Int.reduceAdd, Int.reduceSub, Int.reduceMul, Int.reduceNeg, Int.reduceLT, Int.reduceLE, Int.reduceEq, Int.reduceDiv, Int.reduceMod, Nat.reduceAdd, Nat.reduceMul, ↓reduceIte]
    rw [decide_eq_false (show ¬ w = ((18 : Nat) : Int) from e0)] at a0
    have a0 : f_X10_isHere 135 s = some (Int32.ofInt 0, s) := a0
    by_cases e1 : w = 19
    · subst e1
      have a1 : f_X10_isHere 136 s = some (Int32.ofInt 1, s) := a1
      simp (disch := omega) only [f_X10_qWordHere, ↓bb a0, ↓bb a1, n_i8, n_i16, n_0, n_31, n_add, n_sub, n_mul, n_neg, n_div, n_rem, n_le_t, n_le_f, n_lt_t, n_lt_f, n_eq_t, n_eq_f, n_cl, n_gd, n_gdt, n_nz, Int.reduceToNat, Int.reduceAdd, Int.reduceSub, Int.reduceMul, Int.reduceNeg, Int.reduceLT, Int.reduceLE, Int.reduceEq, Int.reduceDiv, Int.reduceMod, Nat.reduceAdd, Nat.reduceMul, ↓reduceIte]
    rw [decide_eq_false (show ¬ w = ((19 : Nat) : Int) from e1)] at a1
    have a1 : f_X10_isHere 136 s = some (Int32.ofInt 0, s) := a1
    by_cases e2 : w = 20
    · subst e2
      have a2 : f_X10_isHere 137 s = some (Int32.ofInt 1, s) := a2
      cases m with
      | true =>
        have h59 : s.1 65 59 = Int32.ofInt 0 := h59
        simp (disch := omega) only [f_X10_qWordHere, ↓bb a0, ↓bb a1, ↓bb a2, h59, n_i8, n_i16, n_0, n_31, n_add, n_sub, n_mul, n_neg, n_div, n_rem, n_le_t, n_le_f, n_lt_t, n_lt_f, n_eq_t, n_eq_f, n_cl, n_gd, n_gdt, n_nz, Int.reduceToNat, Int.reduceAdd, Int.reduceSub, Int.reduceMul, Int.reduceNeg, Int.reduceLT, Int.reduceLE, Int.reduceEq, Int.reduceDiv, Int.reduceMod, Nat.reduceAdd, Nat.reduceMul, ↓reduceIte]
      | false =>
        have h59 : s.1 65 59 = Int32.ofInt 1 := h59
        simp (disch := omega) only [f_X10_qWordHere, ↓bb a0, ↓bb a1, ↓bb a2, h59, n_i8, n_i16, n_0, n_31, n_add, n_sub, n_mul, n_neg, n_div, n_rem, n_le_t, n_le_f, n_lt_t, n_lt_f, n_eq_t, n_eq_f, n_cl, n_gd, n_gdt, n_nz, Int.reduceToNat, Int.reduceAdd, Int.reduceSub, Int.reduceMul, Int.reduceNeg, Int.reduceLT, Int.reduceLE, Int.reduceEq, Int.reduceDiv, Int.reduceMod, Nat.reduceAdd, Nat.reduceMul, ↓reduceIte]
        rfl
    rw [decide_eq_false (show ¬ w = ((20 : Nat) : Int) from e2)] at a2
    have a2 : f_X10_isHere 137 s = some (Int32.ofInt 0, s) := a2
    by_cases e3 : w = 21
    · subst e3
      have a3 : f_X10_isHere 138 s = some (Int32.ofInt 1, s) := a3
      simp (disch := omega) only [f_X10_qWordHere, ↓bb a0, ↓bb a1, ↓bb a2, ↓bb a3, n_i8, n_i16, n_0, n_31, n_add, n_sub, n_mul, n_neg, n_div, n_rem, n_le_t, n_le_f, n_lt_t, n_lt_f, n_eq_t, n_eq_f, n_cl, n_gd, n_gdt, n_nz, Int.reduceToNat, Int.reduceAdd, Int.reduceSub, Int.reduceMul, Int.reduceNeg, Int.reduceLT, Int.reduceLE, Int.reduceEq, Int.reduceDiv, Int.reduceMod, Nat.reduceAdd, Nat.reduceMul, ↓reduceIte]
    rw [decide_eq_false (show ¬ w = ((21 : Nat) : Int) from e3)] at a3
    have a3 : f_X10_isHere 138 s = some (Int32.ofInt 0, s) := a3
    by_cases e4 : w = 22
    · subst e4
      have a4 : f_X10_isHere 139 s = some (Int32.ofInt 1, s) := a4
      simp (disch := omega) only [f_X10_qWordHere, ↓bb a0, ↓bb a1, ↓bb a2, ↓bb a3, ↓bb a4, n_i8, n_i16, n_0, n_31, n_add, n_sub, n_mul, n_neg, n_div, n_rem, n_le_t, n_le_f, n_lt_t, n_lt_f, n_eq_t, n_eq_f, n_cl, n_gd, n_gdt, n_nz, Int.reduceToNat, Int.reduceAdd, Int.reduceSub, Int.reduceMul, Int.reduceNeg, Int.reduceLT, Int.reduceLE, Int.reduceEq, Int.reduceDiv, Int.reduceMod, Nat.reduceAdd, Nat.reduceMul, ↓reduceIte]
    rw [decide_eq_false (show ¬ w = ((22 : Nat) : Int) from e4)] at a4
    have a4 : f_X10_isHere 139 s = some (Int32.ofInt 0, s) := a4
    by_cases e5 : w = 23
    · subst e5
      have a5 : f_X10_isHere 140 s = some (Int32.ofInt 1, s) := a5
      simp (disch := omega) only [f_X10_qWordHere, ↓bb a0, ↓bb a1, ↓bb a2, ↓bb a3, ↓bb a4, ↓bb a5, n_i8, n_i16, n_0, n_31, n_add, n_sub, n_mul, n_neg, n_div, n_rem, n_le_t, n_le_f, n_lt_t, n_lt_f, n_eq_t, n_eq_f, n_cl, n_gd, n_gdt, n_nz, Int.reduceToNat, Int.reduceAdd, Int.reduceSub, Int.reduceMul, Int.reduceNeg, Int.reduceLT, Int.reduceLE, Int.reduceEq, Int.reduceDiv, Int.reduceMod, Nat.reduceAdd, Nat.reduceMul, ↓reduceIte]
    rw [decide_eq_false (show ¬ w = ((23 : Nat) : Int) from e5)] at a5
    have a5 : f_X10_isHere 140 s = some (Int32.ofInt 0, s) := a5
    by_cases e6 : w = 24
    · subst e6
      have a6 : f_X10_isHere 141 s = some (Int32.ofInt 1, s) := a6
      simp (disch := omega) only [f_X10_qWordHere, ↓bb a0, ↓bb a1, ↓bb a2, ↓bb a3, ↓bb a4, ↓bb a5, ↓bb a6, n_i8, n_i16, n_0, n_31, n_add, n_sub, n_mul, n_neg, n_div, n_rem, n_le_t, n_le_f, n_lt_t, n_lt_f, n_eq_t, n_eq_f, n_cl, n_gd, n_gdt, n_nz, Int.reduceToNat, Int.reduceAdd, Int.reduceSub, Int.reduceMul, Int.reduceNeg, Int.reduceLT, Int.reduceLE, Int.reduceEq, Int.reduceDiv, Int.reduceMod, Nat.reduceAdd, Nat.reduceMul, ↓reduceIte]
    rw [decide_eq_false (show ¬ w = ((24 : Nat) : Int) from e6)] at a6
    have a6 : f_X10_isHere 141 s = some (Int32.ofInt 0, s) := a6
    by_cases e7 : w = 25
    · subst e7
      have a7 : f_X10_isHere 142 s = some (Int32.ofInt 1, s) := a7
      simp (disch := omega) only [f_X10_qWordHere, ↓bb a0, ↓bb a1, ↓bb a2, ↓bb a3, ↓bb a4, ↓bb a5, ↓bb a6, ↓bb a7, n_i8, n_i16, n_0, n_31, n_add, n_sub, n_mul, n_neg, n_div, n_rem, n_le_t, n_le_f, n_lt_t, n_lt_f, n_eq_t, n_eq_f, n_cl, n_gd, n_gdt, n_nz, Int.reduceToNat, Int.reduceAdd, Int.reduceSub, Int.reduceMul, Int.reduceNeg, Int.reduceLT, Int.reduceLE, Int.reduceEq, Int.reduceDiv, Int.reduceMod, Nat.reduceAdd, Nat.reduceMul, ↓reduceIte]
    rw [decide_eq_false (show ¬ w = ((25 : Nat) : Int) from e7)] at a7
    have a7 : f_X10_isHere 142 s = some (Int32.ofInt 0, s) := a7
    by_cases e8 : w = 7
    · subst e8
      have a8 : f_X10_isHere 143 s = some (Int32.ofInt 1, s) := a8
      simp (disch := omega) only [f_X10_qWordHere, ↓bb a0, ↓bb a1, ↓bb a2, ↓bb a3, ↓bb a4, ↓bb a5, ↓bb a6, ↓bb a7, ↓bb a8, n_i8, n_i16, n_0, n_31, n_add, n_sub, n_mul, n_neg, n_div, n_rem, n_le_t, n_le_f, n_lt_t, n_lt_f, n_eq_t, n_eq_f, n_cl, n_gd, n_gdt, n_nz, Int.reduceToNat, Int.reduceAdd, Int.reduceSub, Int.reduceMul, Int.reduceNeg, Int.reduceLT, Int.reduceLE, Int.reduceEq, Int.reduceDiv, Int.reduceMod, Nat.reduceAdd, Nat.reduceMul, ↓reduceIte]
    rw [decide_eq_false (show ¬ w = ((7 : Nat) : Int) from e8)] at a8
    have a8 : f_X10_isHere 143 s = some (Int32.ofInt 0, s) := a8
    by_cases e9 : w = 6
    · subst e9
      have a9 : f_X10_isHere 144 s = some (Int32.ofInt 1, s) := a9
      simp (disch := omega) only [f_X10_qWordHere, ↓bb a0, ↓bb a1, ↓bb a2, ↓bb a3, ↓bb a4, ↓bb a5, ↓bb a6, ↓bb a7, ↓bb a8, ↓bb a9, n_i8, n_i16, n_0, n_31, n_add, n_sub, n_mul, n_neg, n_div, n_rem, n_le_t, n_le_f, n_lt_t, n_lt_f, n_eq_t, n_eq_f, n_cl, n_gd, n_gdt, n_nz, Int.reduceToNat, Int.reduceAdd, Int.reduceSub, Int.reduceMul, Int.reduceNeg, Int.reduceLT, Int.reduceLE, Int.reduceEq, Int.reduceDiv, Int.reduceMod, Nat.reduceAdd, Nat.reduceMul, ↓reduceIte]
    rw [decide_eq_false (show ¬ w = ((6 : Nat) : Int) from e9)] at a9
    have a9 : f_X10_isHere 144 s = some (Int32.ofInt 0, s) := a9
    by_cases e10 : w = 26
    · subst e10
      have a10 : f_X10_isHere 145 s = some (Int32.ofInt 1, s) := a10
      simp (disch := omega) only [f_X10_qWordHere, ↓bb a0, ↓bb a1, ↓bb a2, ↓bb a3, ↓bb a4, ↓bb a5, ↓bb a6, ↓bb a7, ↓bb a8, ↓bb a9, ↓bb a10, n_i8, n_i16, n_0, n_31, n_add, n_sub, n_mul, n_neg, n_div, n_rem, n_le_t, n_le_f, n_lt_t, n_lt_f, n_eq_t, n_eq_f, n_cl, n_gd, n_gdt, n_nz, Int.reduceToNat, Int.reduceAdd, Int.reduceSub, Int.reduceMul, Int.reduceNeg, Int.reduceLT, Int.reduceLE, Int.reduceEq, Int.reduceDiv, Int.reduceMod, Nat.reduceAdd, Nat.reduceMul, ↓reduceIte]
    rw [decide_eq_false (show ¬ w = ((26 : Nat) : Int) from e10)] at a10
    have a10 : f_X10_isHere 145 s = some (Int32.ofInt 0, s) := a10
    rw [if_neg e0, if_neg e1, if_neg e2, if_neg e3, if_neg e4, if_neg e5, if_neg e6, if_neg e7, if_neg e8, if_neg e9, if_neg e10]
    simp (disch := omega) only [f_X10_qWordHere, ↓bb a0, ↓bb a1, ↓bb a2, ↓bb a3, ↓bb a4, ↓bb a5, ↓bb a6, ↓bb a7, ↓bb a8, ↓bb a9, ↓bb a10, n_i8, n_i16, n_0, n_31, n_add, n_sub, n_mul, n_neg, n_div, n_rem, n_le_t, n_le_f, n_lt_t, n_lt_f, n_eq_t, n_eq_f, n_cl, n_gd, n_gdt, n_nz, Int.reduceToNat, Int.reduceAdd, Int.reduceSub, Int.reduceMul, Int.reduceNeg, Int.reduceLT, Int.reduceLE, Int.reduceEq, Int.reduceDiv, Int.reduceMod, Nat.reduceAdd, Nat.reduceMul, ↓reduceIte]
theorem qwv_11 {c : Cur} : (qwv T n m c = 11 ↔ (m = true ∧ isWL T n c (WDl 20) = true)) ∧ qwv T n m c ≤ 11 ∧ -1 ≤ qwv T n m c := by
  rw [isWL_ix (by omega), Bool.and_eq_true, decide_eq_true_iff]
  unfold qwv
  generalize wix T n c = w
  refine ⟨⟨fun h => ?_, fun h => ?_⟩, ?_, ?_⟩
  · (repeat' split at h) <;> first | omega | (refine ⟨by assumption, by assumption, ?_⟩; omega)
  · obtain ⟨h1, h2, h3⟩ := h
    rw [if_pos h2, if_neg (by omega), if_neg (by omega), if_pos (by omega), if_pos h1]
  · (repeat' split) <;> omega
  · (repeat' split) <;> omega
theorem qwv_f {c : Cur} : (isW T n c = true ∧ isF m (wix T n c) = true → qwv T n m c = fk (wix T n c) ∧ 0 ≤ qwv T n m c ∧ qwv T n m c ≤ 10 ∧ (m = true → 3 ≤ qwv T n m c) ∧ (m = false → qwv T n m c ≤ 3)) ∧ (¬ (isW T n c = true ∧ isF m (wix T n c) = true) → qwv T n m c = -1 ∨ qwv T n m c = 11 ∨ (m = true ∧ qwv T n m c ≤ 2) ∨ (m = false ∧ 4 ≤ qwv T n m c)) := by
  unfold qwv isF fk
  generalize wix T n c = w
  constructor
  · rintro ⟨h1, h2⟩
    rw [if_pos h1]
    cases m with
    | true =>
      rw [if_pos rfl] at h2
      have h2 := of_decide_eq_true h2
      have : w = 21 ∨ w = 22 ∨ w = 23 ∨ w = 24 ∨ w = 25 ∨ w = 26 ∨ w = 7 ∨ w = 6 := by omega
      rcases this with rfl | rfl | rfl | rfl | rfl | rfl | rfl | rfl <;> simp
    | false =>
      rw [if_neg (by decide)] at h2
      have h2 := of_decide_eq_true h2
      have : w = 18 ∨ w = 19 ∨ w = 20 ∨ w = 21 := by omega
      rcases this with rfl | rfl | rfl | rfl <;> simp
  · intro h
    cases e1 : isW T n c with
    | false => rw [if_neg (by decide)]; exact Or.inl rfl
    | true =>
      rw [if_pos rfl]
      cases m with
      | true =>
        have h : ¬ ((21 ≤ w ∧ w ≤ 26) ∨ w = 7 ∨ w = 6) := fun x => h ⟨e1, by rw [if_pos rfl]; exact decide_eq_true x⟩
        have g : ∀ X : Int, (X = -1 ∨ X = 11 ∨ X ≤ 2) → (X = -1 ∨ X = 11 ∨ (true = true ∧ X ≤ 2) ∨ (true = false ∧ 4 ≤ X)) := by
          intro X hX
          rcases hX with x | x | x
          · exact Or.inl x
          · exact Or.inr (Or.inl x)
          · exact Or.inr (Or.inr (Or.inl ⟨rfl, x⟩))
        refine g _ ?_
        (repeat' split) <;> omega
      | false =>
        have h : ¬ (18 ≤ w ∧ w ≤ 21) := fun x => h ⟨e1, by rw [if_neg (by decide)]; exact decide_eq_true x⟩
        have g : ∀ X : Int, (X = -1 ∨ X = 11 ∨ 4 ≤ X) → (X = -1 ∨ X = 11 ∨ (false = true ∧ X ≤ 2) ∨ (false = false ∧ 4 ≤ X)) := by
          intro X hX
          rcases hX with x | x | x
          · exact Or.inl x
          · exact Or.inr (Or.inl x)
          · exact Or.inr (Or.inr (Or.inr ⟨rfl, x⟩))
        refine g _ ?_
        (repeat' split) <;> omega
theorem m_allow {s : ST} (h59 : s.1 65 59 = bI (!m)) {k : Int} (k0 : 0 ≤ k) (k1 : k ≤ 11) : f_X10_isAllowed (Int32.ofInt k) s = some (bI (if m = true then decide (3 ≤ k) else decide (k < 4)), s) := by
  cases m with
  | true =>
    have h59 : s.1 65 59 = Int32.ofInt 0 := h59
    rw [if_pos rfl]
    by_cases e : 3 ≤ k
    · rw [decide_eq_true e]
      simp (disch := omega) only [f_X10_isAllowed, h59, bI_t, n_i8, n_i16, n_0, n_31, n_add, n_sub, n_mul, n_neg, n_div, n_rem, n_le_t, n_le_f, n_lt_t, n_lt_f, n_eq_t, n_eq_f, n_cl, n_gd, n_gdt, n_nz, Int.reduceToNat, Int.reduceAdd, Int.reduceSub, Int.reduceMul, Int.reduceNeg, Int.reduceLT, Int.reduceLE, Int.reduceEq, Int.reduceDiv, Int.reduceMod, Nat.reduceAdd, Nat.reduceMul, ↓reduceIte, bnd]
    · rw [decide_eq_false e]
      simp (disch := omega) only [f_X10_isAllowed, h59, bI_f, n_i8, n_i16, n_0, n_31, n_add, n_sub, n_mul, n_neg, n_div, n_rem, n_le_t, n_le_f, n_lt_t, n_lt_f, n_eq_t, n_eq_f, n_cl, n_gd, n_gdt, n_nz, Int.reduceToNat, Int.reduceAdd, Int.reduceSub, Int.reduceMul, Int.reduceNeg, Int.reduceLT, Int.reduceLE, Int.reduceEq, Int.reduceDiv, Int.reduceMod, Nat.reduceAdd, Nat.reduceMul, ↓reduceIte, bnd]
  | false =>
    have h59 : s.1 65 59 = Int32.ofInt 1 := h59
    rw [if_neg (by decide)]
    by_cases e : k < 4
    · rw [decide_eq_true e]
      simp (disch := omega) only [f_X10_isAllowed, h59, bI_t, n_i8, n_i16, n_0, n_31, n_add, n_sub, n_mul, n_neg, n_div, n_rem, n_le_t, n_le_f, n_lt_t, n_lt_f, n_eq_t, n_eq_f, n_cl, n_gd, n_gdt, n_nz, Int.reduceToNat, Int.reduceAdd, Int.reduceSub, Int.reduceMul, Int.reduceNeg, Int.reduceLT, Int.reduceLE, Int.reduceEq, Int.reduceDiv, Int.reduceMod, Nat.reduceAdd, Nat.reduceMul, ↓reduceIte, bnd]
    · rw [decide_eq_false e]
      simp (disch := omega) only [f_X10_isAllowed, h59, bI_f, n_i8, n_i16, n_0, n_31, n_add, n_sub, n_mul, n_neg, n_div, n_rem, n_le_t, n_le_f, n_lt_t, n_lt_f, n_eq_t, n_eq_f, n_cl, n_gd, n_gdt, n_nz, Int.reduceToNat, Int.reduceAdd, Int.reduceSub, Int.reduceMul, Int.reduceNeg, Int.reduceLT, Int.reduceLE, Int.reduceEq, Int.reduceDiv, Int.reduceMod, Nat.reduceAdd, Nat.reduceMul, ↓reduceIte, bnd]
theorem m_w11 {c : Cur} {s : ST} (h : RLk T n c s) (hw : WDS s) (h59 : s.1 65 59 = bI (!m)) : (m = true ∧ isWL T n c (WDl 20) = true → f_X10_qWordOf (Int32.ofInt 11) (Int32.ofInt 12) s = some (Int32.ofInt 11, s)) ∧ (¬ (m = true ∧ isWL T n c (WDl 20) = true) → f_X10_qWordOf (Int32.ofInt 11) (Int32.ofInt 12) s = some (Int32.ofInt (-1), s)) := by
  have hq := m_qwh h hw h59
  obtain ⟨q1, q2, q3⟩ := qwv_11 (T := T) (n := n) (m := m) (c := c)
  constructor
  · intro x
    have e := q1.mpr x
    rw [e] at hq
    have ha := m_allow h59 (k := 11) (by omega) (by omega)
    rw [if_pos x.1, show decide ((3 : Int) ≤ 11) = true by decide] at ha
    simp (disch := omega) only [f_X10_qWordOf, hq, ha, bI_t, n_i8, n_i16, n_0, n_31, n_add, n_sub, n_mul, n_neg, n_div, n_rem, n_le_t, n_le_f, n_lt_t, n_lt_f, n_eq_t, n_eq_f, n_cl, n_gd, n_gdt, n_nz, Int.reduceToNat, Int.reduceAdd, Int.reduceSub, Int.reduceMul, Int.reduceNeg, Int.reduceLT, Int.reduceLE, Int.reduceEq, Int.reduceDiv, Int.reduceMod, Nat.reduceAdd, Nat.reduceMul, ↓reduceIte, bnd]
  · intro x
    have e : ¬ qwv T n m c = 11 := fun y => x (q1.mp y)
    simp (disch := omega) only [f_X10_qWordOf, hq, n_i8, n_i16, n_0, n_31, n_add, n_sub, n_mul, n_neg, n_div, n_rem, n_le_t, n_le_f, n_lt_t, n_lt_f, n_eq_t, n_eq_f, n_cl, n_gd, n_gdt, n_nz, Int.reduceToNat, Int.reduceAdd, Int.reduceSub, Int.reduceMul, Int.reduceNeg, Int.reduceLT, Int.reduceLE, Int.reduceEq, Int.reduceDiv, Int.reduceMod, Nat.reduceAdd, Nat.reduceMul, ↓reduceIte, bnd]
theorem m_w0 {c : Cur} {s : ST} (h : RLk T n c s) (hw : WDS s) (h59 : s.1 65 59 = bI (!m)) : (isW T n c = true ∧ isF m (wix T n c) = true → f_X10_qWordOf (Int32.ofInt 0) (Int32.ofInt 11) s = some (Int32.ofInt (fk (wix T n c)), s) ∧ 0 ≤ fk (wix T n c) ∧ fk (wix T n c) ≤ 10) ∧ (¬ (isW T n c = true ∧ isF m (wix T n c) = true) → f_X10_qWordOf (Int32.ofInt 0) (Int32.ofInt 11) s = some (Int32.ofInt (-1), s)) := by
  have hq := m_qwh h hw h59
  obtain ⟨-, q2, q3⟩ := qwv_11 (T := T) (n := n) (m := m) (c := c)
  obtain ⟨p1, p2⟩ := qwv_f (T := T) (n := n) (m := m) (c := c)
  constructor
  · intro x
    obtain ⟨e1, e2, e3, e4, e5⟩ := p1 x
    have ha := m_allow h59 (k := qwv T n m c) (by omega) (by omega)
    have hat : (if m = true then decide (3 ≤ qwv T n m c) else decide (qwv T n m c < 4)) = true := by
      cases m with
      | true => rw [if_pos rfl]; exact decide_eq_true (e4 rfl)
      | false => rw [if_neg (by decide)]; exact decide_eq_true (by have := e5 rfl; omega)
    rw [hat] at ha
    rw [← e1]
    refine ⟨?_, e2, e3⟩
    simp (disch := omega) only [f_X10_qWordOf, hq, ha, bI_t, n_i8, n_i16, n_0, n_31, n_add, n_sub, n_mul, n_neg, n_div, n_rem, n_le_t, n_le_f, n_lt_t, n_lt_f, n_eq_t, n_eq_f, n_cl, n_gd, n_gdt, n_nz, Int.reduceToNat, Int.reduceAdd, Int.reduceSub, Int.reduceMul, Int.reduceNeg, Int.reduceLT, Int.reduceLE, Int.reduceEq, Int.reduceDiv, Int.reduceMod, Nat.reduceAdd, Nat.reduceMul, ↓reduceIte, bnd]
  · intro x
    have p2 := p2 x
    by_cases e1 : qwv T n m c < 0
    · simp (disch := omega) only [f_X10_qWordOf, hq, n_i8, n_i16, n_0, n_31, n_add, n_sub, n_mul, n_neg, n_div, n_rem, n_le_t, n_le_f, n_lt_t, n_lt_f, n_eq_t, n_eq_f, n_cl, n_gd, n_gdt, n_nz, Int.reduceToNat, Int.reduceAdd, Int.reduceSub, Int.reduceMul, Int.reduceNeg, Int.reduceLT, Int.reduceLE, Int.reduceEq, Int.reduceDiv, Int.reduceMod, Nat.reduceAdd, Nat.reduceMul, ↓reduceIte, bnd]
    by_cases e2 : 11 ≤ qwv T n m c
    · simp (disch := omega) only [f_X10_qWordOf, hq, n_i8, n_i16, n_0, n_31, n_add, n_sub, n_mul, n_neg, n_div, n_rem, n_le_t, n_le_f, n_lt_t, n_lt_f, n_eq_t, n_eq_f, n_cl, n_gd, n_gdt, n_nz, Int.reduceToNat, Int.reduceAdd, Int.reduceSub, Int.reduceMul, Int.reduceNeg, Int.reduceLT, Int.reduceLE, Int.reduceEq, Int.reduceDiv, Int.reduceMod, Nat.reduceAdd, Nat.reduceMul, ↓reduceIte, bnd]
    · have ha := m_allow h59 (k := qwv T n m c) (by omega) (by omega)
      have hat : (if m = true then decide (3 ≤ qwv T n m c) else decide (qwv T n m c < 4)) = false := by
        rcases p2 with p2 | p2 | ⟨p2, p3⟩ | ⟨p2, p3⟩
        · omega
        · omega
        · rw [if_pos p2]; exact decide_eq_false (by omega)
        · rw [p2, if_neg (by decide)]; rw [p2] at p3; exact decide_eq_false (by omega)
      rw [hat] at ha
      simp (disch := omega) only [f_X10_qWordOf, hq, ha, bI_f, n_i8, n_i16, n_0, n_31, n_add, n_sub, n_mul, n_neg, n_div, n_rem, n_le_t, n_le_f, n_lt_t, n_lt_f, n_eq_t, n_eq_f, n_cl, n_gd, n_gdt, n_nz, Int.reduceToNat, Int.reduceAdd, Int.reduceSub, Int.reduceMul, Int.reduceNeg, Int.reduceLT, Int.reduceLE, Int.reduceEq, Int.reduceDiv, Int.reduceMod, Nat.reduceAdd, Nat.reduceMul, ↓reduceIte, bnd]
theorem m_askw {k : Int} (k0 : 0 ≤ k) (k1 : k ≤ 10) (s : ST) : f_X10_qAsksWord (Int32.ofInt k) s = f_X10_asks (135 + k.toNat) s := by
  have hk : k = 0 ∨ k = 1 ∨ k = 2 ∨ k = 3 ∨ k = 4 ∨ k = 5 ∨ k = 6 ∨ k = 7 ∨ k = 8 ∨ k = 9 ∨ k = 10 := by omega
  rcases hk with rfl | rfl | rfl | rfl | rfl | rfl | rfl | rfl | rfl | rfl | rfl <;> simp (disch := omega) only [f_X10_qAsksWord, n_l1, n_l2, n_l3, n_l4, n_l5, n_l6, n_l7, n_l8, n_l9, n_l10, n_l11, n_l12, n_l13, n_l14, n_l15, n_l16, n_l17, n_l18, n_l19, n_l20, n_l21, n_l22, n_l23, n_l24, n_l25, n_l26, n_l27, n_l28, n_l29, n_l30, n_l31, n_l32, n_l33, n_l34, n_l35, n_l36, n_l37, n_l38, n_l39, n_l40, n_l41, n_l42, n_l43, n_l44, n_l45, n_l46, n_l47, n_l48, n_l49, n_l50, n_l51, n_l52, n_l53, n_l54, n_l55, n_l56, n_l57, n_l58, n_l59, n_l60, n_i8, n_i16, n_0, n_31, n_add, n_sub, n_mul, n_neg, n_div, n_rem, n_le_t, n_le_f, n_lt_t, n_lt_f, n_eq_t, n_eq_f, n_cl, n_gd, n_gdt, n_nz, Int.reduceToNat, Int.reduceAdd, Int.reduceSub, Int.reduceMul, Int.reduceNeg, Int.reduceLT, Int.reduceLE, Int.reduceEq, Int.reduceDiv, Int.reduceMod, Nat.reduceAdd, Nat.reduceMul, ↓reduceIte, Option.bind_fun_some]
theorem m_askw11 (s : ST) : f_X10_qAsksWord (Int32.ofInt 11) s = f_X10_asks 137 s := by
  simp (disch := omega) only [f_X10_qAsksWord, n_l1, n_l2, n_l3, n_l4, n_l5, n_l6, n_l7, n_l8, n_l9, n_l10, n_l11, n_l12, n_l13, n_l14, n_l15, n_l16, n_l17, n_l18, n_l19, n_l20, n_l21, n_l22, n_l23, n_l24, n_l25, n_l26, n_l27, n_l28, n_l29, n_l30, n_l31, n_l32, n_l33, n_l34, n_l35, n_l36, n_l37, n_l38, n_l39, n_l40, n_l41, n_l42, n_l43, n_l44, n_l45, n_l46, n_l47, n_l48, n_l49, n_l50, n_l51, n_l52, n_l53, n_l54, n_l55, n_l56, n_l57, n_l58, n_l59, n_l60, n_i8, n_i16, n_0, n_31, n_add, n_sub, n_mul, n_neg, n_div, n_rem, n_le_t, n_le_f, n_lt_t, n_lt_f, n_eq_t, n_eq_f, n_cl, n_gd, n_gdt, n_nz, Int.reduceToNat, Int.reduceAdd, Int.reduceSub, Int.reduceMul, Int.reduceNeg, Int.reduceLT, Int.reduceLE, Int.reduceEq, Int.reduceDiv, Int.reduceMod, Nat.reduceAdd, Nat.reduceMul, ↓reduceIte, Option.bind_fun_some]
theorem fk_w {w : Int} (h : isF m w = true) : wno (135 + (fk w).toNat) = w.toNat ∧ 0 ≤ w ∧ w ≤ 26 := by
  have hw : (18 ≤ w ∧ w ≤ 26) ∨ w = 7 ∨ w = 6 := by
    unfold isF at h
    cases m with
    | true =>
      rw [if_pos rfl] at h
      have := of_decide_eq_true h
      omega
    | false =>
      rw [if_neg (by decide)] at h
      have := of_decide_eq_true h
      omega
  have : w = 18 ∨ w = 19 ∨ w = 20 ∨ w = 21 ∨ w = 22 ∨ w = 23 ∨ w = 24 ∨ w = 25 ∨ w = 26 ∨ w = 7 ∨ w = 6 := by omega
  rcases this with rfl | rfl | rfl | rfl | rfl | rfl | rfl | rfl | rfl | rfl | rfl <;> decide
/-! a part is asked -/
theorem L2_b {k p : Int} {s : ST} (h : RB k p s) (F : Nat) : f_X10_qPartTold_L2 f_X10_qPartTold_j186 (F + 1) (Int32.ofInt 1) s = some s := by
  have e5 : (s.1 65 5 = Int32.ofInt 0) = False := eq_false h.ne
  simp (disch := omega) only [f_X10_qPartTold_L2, f_X10_qPartTold_j186, e5, n_i8, n_i16, n_0, n_31, n_add, n_sub, n_mul, n_neg, n_div, n_rem, n_le_t, n_le_f, n_lt_t, n_lt_f, n_eq_t, n_eq_f, n_cl, n_gd, n_gdt, n_nz, Int.reduceToNat, Int.reduceAdd, Int.reduceSub, Int.reduceMul, Int.reduceNeg, Int.reduceLT, Int.reduceLE, Int.reduceEq, Int.reduceDiv, Int.reduceMod, Nat.reduceAdd, Nat.reduceMul, ↓reduceIte, bnd]
theorem PM_b {k p : Int} {s : ST} (h : RB k p s) (F1 F2 : Nat) : PM K x1 (F1 + 1) (F2 + 1) s = K x1 s := by
  unfold PM
  rw [L2_b h, bnd]
  exact G1_b h
theorem RB_fr {k p : Int} {s s' : ST} (h : RB k p s) (h1 : s'.1 65 5 = s.1 65 5) (h2 : s'.1 65 6 = s.1 65 6) : RB k p s' := ⟨h1.trans h.1, h2.trans h.2.1, h.2.2⟩
theorem P_open {b : Int} {c : Cur} {cs W : List Int} {o : Int} {s : ST} {F1 F2 : Nat} (h : MZ T n m b c cs W o s) (hs : isSg T n c 40 = true) : (o < 6 → ∃ s', PM K x1 (F1 + 1) F2 s = PM K x1 F1 F2 s' ∧ MZ T n m b (nxS T n c) cs (W ++ [20]) (o + 1) s' ∧ RQf s s') ∧ (o = 6 → ∃ s', PM K x1 (F1 + 1 + 1) (F2 + 1) s = K x1 s' ∧ RB 4 (frm T n c) s' ∧ QN s' ∧ RQf s s') := by
  have hn := h.nb
  have hsb := sg_b hs hn.1 hn.2.1
  have hsz := h.2.2.2.2
  obtain ⟨s1, q1, q2, q3, q4⟩ := m_lookQ h
  have elk : lkV T n (frm T n c) = 40 := of_decide_eq_true (by rw [← sg_lk (by omega)]; exact hs)
  rw [elk] at q1
  have hbad := h.1.b.1
  have hbad1 := q2.b.1
  have h2 := q2.b.2.1
  obtain ⟨w1, w2⟩ := m_w11 q2 q3.2.1 q3.2.2.2.1.1
  have hw : ∃ v, f_X10_qWordOf (Int32.ofInt 11) (Int32.ofInt 12) s1 = some (v, s1) := by
    by_cases e : m = true ∧ isWL T n c (WDl 20) = true
    · exact ⟨_, w1 e⟩
    · exact ⟨_, w2 e⟩
  obtain ⟨v, hw⟩ := hw
  constructor
  · intro ho
    obtain ⟨s2, r1, r2, r3⟩ := m_qopens q3.2.2.1 hbad1 ho (by omega) (v := 20) (by omega) (by omega) (Int32.ofInt (frm T n c))
    -- behind the sign
    obtain ⟨s3, p1, p2, p3, p4⟩ := m_pass q3 (ch := 40) (by omega) (by omega) hs
    have h22 : s2.1 65 2 = Int32.ofInt (frm T n c) := (r3.1 65 2 (by omega) (by omega) (by omega)).trans h2
    have hf : RFa s2 (uI s2 65 2 (Int32.ofInt (frm T n c + 1))) := ⟨fun o k x => by (simp only [ua, ja, u_2, u_3, j_1, j_3]; (repeat' split) <;> first | rfl | (exfalso; omega)), rfl⟩
    have es3 : s3 = uI s1 65 2 (Int32.ofInt (frm T n c + 1)) := by
      have hl := m_lookL q2
      rw [elk] at hl
      have : f_X10_takesSign (Int32.ofInt 40) s1 = some (Int32.ofInt 1, uI s1 65 2 (Int32.ofInt (frm T n c + 1))) := by
        simp (disch := omega) only [f_X10_takesSign, hbad1, hl, h2, n_i8, n_i16, n_0, n_31, n_add, n_sub, n_mul, n_neg, n_div, n_rem, n_le_t, n_le_f, n_lt_t, n_lt_f, n_eq_t, n_eq_f, n_cl, n_gd, n_gdt, n_nz, Int.reduceToNat, Int.reduceAdd, Int.reduceSub, Int.reduceMul, Int.reduceNeg, Int.reduceLT, Int.reduceLE, Int.reduceEq, Int.reduceDiv, Int.reduceMod, Nat.reduceAdd, Nat.reduceMul, ↓reduceIte, u_eq, u_no, u_nk, u_ek, u_2, u_3, j_1, j_3, j_eq, j_no, j_nk, ltd, bnd]
      rw [this] at p1
      exact (congrArg Prod.snd (Option.some.inj p1)).symm
    have hRC : RC T n (nxS T n c) (uI s2 65 2 (Int32.ofInt (frm T n c + 1))) := by
      refine RC_fr p2.1 ?_ ?_ ?_ ?_ ?_ (fun k => ?_)
      · rw [es3, u_eq, u_eq]
      · rw [es3, u_nk (by omega), u_nk (by omega)]; exact r3.1 65 3 (by omega) (by omega) (by omega)
      · rw [es3, u_nk (by omega), u_nk (by omega)]; exact r3.1 65 4 (by omega) (by omega) (by omega)
      · rw [es3, u_nk (by omega), u_nk (by omega)]; exact r3.1 65 5 (by omega) (by omega) (by omega)
      · rw [es3, u_nk (by omega), u_nk (by omega)]; exact r3.1 65 6 (by omega) (by omega) (by omega)
      · rw [es3, u_no (by omega), u_no (by omega)]; exact r3.1 66 k (by omega) (by omega) (by omega)
    have hM : MZ T n m b (nxS T n c) cs (W ++ [20]) (o + 1) (uI s2 65 2 (Int32.ofInt (frm T n c + 1))) := by
      obtain ⟨g1, g2, g3, ⟨g4, g5, g6, g7⟩, g8⟩ := q3
      refine ⟨hRC, WDS_fr g2 (fun o k ho => (hf.1 o k (by omega)).trans (r3.1 o k (by omega) (by omega) (by omega))), QS_fr r2 hf.rp, ⟨(hf.1 65 59 (by omega)).trans ((r3.1 65 59 (by omega) (by omega) (by omega)).trans g4), (hf.1 65 115 (by omega)).trans ((r3.1 65 115 (by omega) (by omega) (by omega)).trans g5), g6, by rw [ln1]; omega⟩, by rw [ln1]; omega⟩
    refine ⟨_, ?_, hM, (q4.tr r3.q).tr hf.q⟩
    unfold PM
    congr 1
    rw [f_X10_qPartTold_L2]
    simp (disch := omega) only [hbad, ↓bb q1, ↓bb hw, h2, ↓bb r1, h22, n_i8, n_i16, n_0, n_31, n_add, n_sub, n_mul, n_neg, n_div, n_rem, n_le_t, n_le_f, n_lt_t, n_lt_f, n_eq_t, n_eq_f, n_cl, n_gd, n_gdt, n_nz, Int.reduceToNat, Int.reduceAdd, Int.reduceSub, Int.reduceMul, Int.reduceNeg, Int.reduceLT, Int.reduceLE, Int.reduceEq, Int.reduceDiv, Int.reduceMod, Nat.reduceAdd, Nat.reduceMul, ↓reduceIte, u_eq, u_no, u_nk, u_ek, u_2, u_3, j_1, j_3, j_eq, j_no, j_nk, ltd, bnd]
  · intro ho
    subst ho
    obtain ⟨s2, r1, r2, r3⟩ := m_qopens6 q3.2.2.1 hbad1 (Int32.ofInt 20) (frm T n c)
    have hf : RFa s2 (uI s2 65 2 (s2.1 65 2 + Int32.ofInt 1)) := ⟨fun o k x => by (simp only [ua, ja, u_2, u_3, j_1, j_3]; (repeat' split) <;> first | rfl | (exfalso; omega)), rfl⟩
    have hB : RB 4 (frm T n c) (uI s2 65 2 (s2.1 65 2 + Int32.ofInt 1)) := RB_fr r2 (hf.1 65 5 (by omega)) (hf.1 65 6 (by omega))
    refine ⟨_, ?_, hB, QN.mk q3 (r3.tr hf.rp), (q4.tr r3.q).tr hf.q⟩
    rw [← PM_b (K := K) (x1 := x1) hB F1 F2]
    unfold PM
    congr 1
    rw [f_X10_qPartTold_L2]
    simp (disch := omega) only [hbad, ↓bb q1, ↓bb hw, h2, ↓bb r1, n_i8, n_i16, n_0, n_31, n_add, n_sub, n_mul, n_neg, n_div, n_rem, n_le_t, n_le_f, n_lt_t, n_lt_f, n_eq_t, n_eq_f, n_cl, n_gd, n_gdt, n_nz, Int.reduceToNat, Int.reduceAdd, Int.reduceSub, Int.reduceMul, Int.reduceNeg, Int.reduceLT, Int.reduceLE, Int.reduceEq, Int.reduceDiv, Int.reduceMod, Nat.reduceAdd, Nat.reduceMul, ↓reduceIte, ltd, bnd]
theorem P_off {b : Int} {c : Cur} {cs W : List Int} {o : Int} {s : ST} {F1 F2 : Nat} (h : MZ T n m b c cs W o s) (hs : m = true ∧ isWL T n c (WDl 20) = true) : (o < 6 → ∃ s', PM K x1 (F1 + 1) F2 s = PM K x1 F1 F2 s' ∧ MZ T n m b (nxW T n c) cs (W ++ [60]) (o + 1) s' ∧ RQf s s') ∧ (o = 6 → ∃ s', PM K x1 (F1 + 1 + 1) (F2 + 1) s = K x1 s' ∧ RB 4 (frm T n c) s' ∧ QN s' ∧ RQf s s') := by
  have hn := h.nb
  have hW := isWL_W hs.2
  have hsb := wd_b hW hn.1 hn.2.1
  have hsz := h.2.2.2.2
  obtain ⟨s1, q1, q2, q3, q4⟩ := m_lookQ h
  have hbad := h.1.b.1
  have hbad1 := q2.b.1
  have h2 := q2.b.2.1
  have hlb := lkV_b (f := frm T n c) q2.b.2.2.2 (by have := q2.b.2.2.1; omega)
  have hl40 : ¬ lkV T n (frm T n c) = 40 := by
    intro x
    have hW2 := hW
    unfold isW at hW2
    rw [Bool.and_eq_true, Bool.and_eq_true, decide_eq_true_iff] at hW2
    have : 97 ≤ T (frm T n c) ∧ T (frm T n c) ≤ 122 := of_decide_eq_true hW2.1.2
    unfold lkV at x
    rw [if_pos hW2.1.1] at x
    omega
  have hw := (m_w11 q2 q3.2.1 q3.2.2.2.1.1).1 hs
  have hix : wix T n c = 20 := by
    have := hs.2
    rw [isWL_ix (by omega), Bool.and_eq_true, decide_eq_true_iff] at this
    exact this.2
  have a31 : f_X10_isHere 133 s1 = some (bI (isWL T n c (WDl 31)), s1) := m_isHereL q2 q3.2.1 (o := 133) (by unfold wce; omega)
  have a32 : f_X10_isHere 134 s1 = some (bI (isWL T n c (WDl 32)), s1) := m_isHereL q2 q3.2.1 (o := 134) (by unfold wce; omega)
  rw [isWL_ix (by omega), hix, hW] at a31 a32
  have a31 : f_X10_isHere 133 s1 = some (Int32.ofInt 0, s1) := a31
  have a32 : f_X10_isHere 134 s1 = some (Int32.ofInt 0, s1) := a32
  constructor
  · intro ho
    obtain ⟨s2, r1, r2, r3⟩ := m_qopens q3.2.2.1 hbad1 ho (by omega) (v := 60) (by omega) (by omega) (Int32.ofInt (frm T n c))
    have hR2 : RC T n c s2 := RC_fr q3.1 (r3.1 65 2 (by omega) (by omega) (by omega)) (r3.1 65 3 (by omega) (by omega) (by omega)) (r3.1 65 4 (by omega) (by omega) (by omega)) (r3.1 65 5 (by omega) (by omega) (by omega)) (r3.1 65 6 (by omega) (by omega) (by omega)) (fun k => r3.1 66 k (by omega) (by omega) (by omega))
    have hW2 : WDS s2 := WDS_fr q3.2.1 (fun o k ho => r3.1 o k (by omega) (by omega) (by omega))
    obtain ⟨s3, p1, p2, -, p4⟩ := m_asks hR2 hW2 (o := 137) (by unfold wce; omega)
    have p2 := p2 hs.2
    have hM : MZ T n m b (nxW T n c) cs (W ++ [60]) (o + 1) s3 := by
      obtain ⟨g1, g2, g3, ⟨g4, g5, g6, g7⟩, g8⟩ := q3
      exact ⟨p2, WDS_fr hW2 (fun o k ho => p4.1 o k (by omega)), QS_fr r2 p4, ⟨(p4.1 65 59 (by omega)).trans ((r3.1 65 59 (by omega) (by omega) (by omega)).trans g4), (p4.1 65 115 (by omega)).trans ((r3.1 65 115 (by omega) (by omega) (by omega)).trans g5), g6, by rw [ln1]; omega⟩, by rw [ln1]; omega⟩
    refine ⟨s3, ?_, hM, (q4.tr r3.q).tr p4.q⟩
    unfold PM
    congr 1
    rw [f_X10_qPartTold_L2]
    simp (disch := omega) only [hbad, q1, hw, a31, a32, h2, r1, m_askw11, p1, n_i8, n_i16, n_0, n_31, n_add, n_sub, n_mul, n_neg, n_div, n_rem, n_le_t, n_le_f, n_lt_t, n_lt_f, n_eq_t, n_eq_f, n_cl, n_gd, n_gdt, n_nz, Int.reduceToNat, Int.reduceAdd, Int.reduceSub, Int.reduceMul, Int.reduceNeg, Int.reduceLT, Int.reduceLE, Int.reduceEq, Int.reduceDiv, Int.reduceMod, Nat.reduceAdd, Nat.reduceMul, ↓reduceIte, ltd, bnd]
  · intro ho
    subst ho
    obtain ⟨s2, r1, r2, r3⟩ := m_qopens6 q3.2.2.1 hbad1 (Int32.ofInt 60) (frm T n c)
    refine ⟨s2, ?_, r2, QN.mk q3 r3, q4.tr r3.q⟩
    rw [← PM_b (K := K) (x1 := x1) r2 F1 F2]
    unfold PM
    congr 1
    rw [f_X10_qPartTold_L2]
    have hA := m_asksB r2 137
    simp (disch := omega) only [hbad, q1, hw, a31, a32, h2, r1, m_askw11, hA, n_i8, n_i16, n_0, n_31, n_add, n_sub, n_mul, n_neg, n_div, n_rem, n_le_t, n_le_f, n_lt_t, n_lt_f, n_eq_t, n_eq_f, n_cl, n_gd, n_gdt, n_nz, Int.reduceToNat, Int.reduceAdd, Int.reduceSub, Int.reduceMul, Int.reduceNeg, Int.reduceLT, Int.reduceLE, Int.reduceEq, Int.reduceDiv, Int.reduceMod, Nat.reduceAdd, Nat.reduceMul, ↓reduceIte, ltd, bnd]
