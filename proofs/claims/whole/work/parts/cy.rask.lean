/-! L3: ask of the reference -/
def qS1 (k m v a : Int) (z : Bool) : Int := if k = 0 then (if v = 1 ∧ a = -1 then m else a) else if k = 1 then (if v = 1 then m else a) else if k = 2 then (if v = 1 then a + 1 else a) else if k = 3 then a + v else if k = 4 then (if z = true ∨ a < v then v else a) else (if z = true ∨ v < a then v else a)
theorem qS1_0 (m v a : Int) (z : Bool) : qS1 0 m v a z = (if v = 1 ∧ a = -1 then m else a) := by simp only [qS1, Int.reduceEq, ↓reduceIte]
theorem qS1_1 (m v a : Int) (z : Bool) : qS1 1 m v a z = (if v = 1 then m else a) := by simp only [qS1, Int.reduceEq, ↓reduceIte]
theorem qS1_2 (m v a : Int) (z : Bool) : qS1 2 m v a z = (if v = 1 then a + 1 else a) := by simp only [qS1, Int.reduceEq, ↓reduceIte]
theorem qS1_3 (m v a : Int) (z : Bool) : qS1 3 m v a z = a + v := by simp only [qS1, Int.reduceEq, ↓reduceIte]
theorem qS1_4 (m v a : Int) (z : Bool) : qS1 4 m v a z = (if z = true ∨ a < v then v else a) := by simp only [qS1, Int.reduceEq, ↓reduceIte]
theorem qS1_5 (m v a : Int) (z : Bool) : qS1 5 m v a z = (if z = true ∨ v < a then v else a) := by simp only [qS1, Int.reduceEq, ↓reduceIte]
theorem qS1_b {k m v a : Int} {z : Bool} (m0 : 0 ≤ m) (m8 : m ≤ 8) (hv : lb v) {A : Int} (a0 : -A ≤ a) (a1 : a ≤ A) (A0 : 0 ≤ A) : -(A + 1000000) ≤ qS1 k m v a z ∧ qS1 k m v a z ≤ A + 1000000 := by
  unfold lb at hv
  unfold qS1
  (repeat' split) <;> omega
def qFo (G : Gam) (V : Int → Int) (k : Int) : Nat → Int → Int → Bool → Int
  | 0, _, a, _ => a
  | n + 1, m, a, z => if gx G m = -1 then qFo G V k n (m + 1) a z else qFo G V k n (m + 1) (qS1 k m (V m) a z) false
def qAn (B : Brd) (G : Gam) (k : Int) (l : List Int) : Int := qFo G (qVa B G l) k (bM B).toNat 0 (if 2 ≤ k then 0 else -1) true
def QTf (s s' : ST) : Prop := (∀ o k : Nat, ¬ (o = 65 ∧ (k = 117 ∨ k = 119)) → s'.1 o k = s.1 o k) ∧ (∀ o k : Nat, ¬ (o = 65 ∧ k = 118) → ¬ o = 148 → s'.2.1 o k = s.2.1 o k) ∧ s'.2.2 = s.2.2
theorem QTf.rf (s : ST) : QTf s s := ⟨fun _ _ _ => rfl, fun _ _ _ _ => rfl, rfl⟩
theorem QTf.tr {s t u : ST} (h1 : QTf s t) (h2 : QTf t u) : QTf s u := ⟨fun o k hk => (h2.1 o k hk).trans (h1.1 o k hk), fun o k hk hk' => (h2.2.1 o k hk hk').trans (h1.2.1 o k hk hk'), h2.2.2.trans h1.2.2⟩
theorem PF.qt {s t : ST} (h : PF s t) : QTf s t := ⟨fun o k x => h.1 o k (by omega), fun o k _ y => h.2.1 o k y, h.2.2⟩
theorem m_qTakes {k m v a : Int} {z : Bool} {s : ST} (k0 : 0 ≤ k) (k5 : k ≤ 5) (m0 : 0 ≤ m) (m8 : m ≤ 8) (hv : lb v) (a0 : -1000000000 ≤ a) (a1 : a ≤ 1000000000) (h118 : s.2.1 65 118 = Int64.ofInt a) (h119 : s.1 65 119 = bI z) : ∃ s', f_X10_qTakes (Int32.ofInt k) (Int64.ofInt v) (Int32.ofInt m) s = some s' ∧ s'.2.1 65 118 = Int64.ofInt (qS1 k m v a z) ∧ s'.1 65 119 = Int32.ofInt 0 ∧ QTf s s' := by
  unfold lb at hv
  have keep : ∀ x : Int, x = a → (uI s 65 119 (Int32.ofInt 0)).2.1 65 118 = Int64.ofInt x ∧ (uI s 65 119 (Int32.ofInt 0)).1 65 119 = Int32.ofInt 0 ∧ QTf s (uI s 65 119 (Int32.ofInt 0)) := by
    intro x e
    subst e
    exact ⟨h118, u_eq _ _ _ _, ⟨fun o k x => by (simp only [ua, ja, u_2, u_3, j_1, j_3]; (repeat' split) <;> first | rfl | (exfalso; omega)), fun o k _ _ => rfl, rfl⟩⟩
  have put : ∀ x : Int, (uI (uJ s 65 118 (Int64.ofInt x)) 65 119 (Int32.ofInt 0)).2.1 65 118 = Int64.ofInt x ∧ (uI (uJ s 65 118 (Int64.ofInt x)) 65 119 (Int32.ofInt 0)).1 65 119 = Int32.ofInt 0 ∧ QTf s (uI (uJ s 65 118 (Int64.ofInt x)) 65 119 (Int32.ofInt 0)) := by
    intro x
    exact ⟨by rw [u_2, j_eq], u_eq _ _ _ _, ⟨fun o k x => by (simp only [ua, ja, u_2, u_3, j_1, j_3]; (repeat' split) <;> first | rfl | (exfalso; omega)), fun o k x _ => by (simp only [ua, ja, u_2, u_3, j_1, j_3]; (repeat' split) <;> first | rfl | (exfalso; omega)), rfl⟩⟩
  have hc : k = 0 ∨ k = 1 ∨ k = 2 ∨ k = 3 ∨ k = 4 ∨ k = 5 := by omega
  rcases hc with rfl | rfl | rfl | rfl | rfl | rfl
  · rw [qS1_0]
    by_cases e : v = 1
    · subst e
      by_cases e2 : a = -1
      · subst e2
        rw [if_pos ⟨rfl, rfl⟩]
        refine ⟨_, ?_, put m⟩
        simp (disch := omega) only [f_X10_qTakes, f_X10_qTakes_j16, f_X10_qTakes_j48, f_X10_qTakes_j55, f_X10_qTakes_j75, f_X10_qTakes_j90, f_X10_qTakes_j133, h118, n_i8, n_i16, n_0, n_31, n_add, n_sub, n_mul, n_neg, n_div, n_rem, n_le_t, n_le_f, n_lt_t, n_lt_f, n_eq_t, n_eq_f, n_cl, n_gd, n_gdt, n_nz, Int.reduceToNat, Int.reduceAdd, Int.reduceSub, Int.reduceMul, Int.reduceNeg, Int.reduceLT, Int.reduceLE, Int.reduceEq, Int.reduceDiv, Int.reduceMod, Nat.reduceAdd, Nat.reduceMul, ↓reduceIte, l_0, l_1, l_00, l_i, l_j, l_add, l_sub, l_mul, l_gt, l_ceq, l_clt, l_nz, ltd]
      · rw [if_neg (fun x => e2 x.2)]
        refine ⟨_, ?_, keep a rfl⟩
        by_cases e3 : a < -1
        · simp (disch := omega) only [f_X10_qTakes, f_X10_qTakes_j16, f_X10_qTakes_j38, f_X10_qTakes_j55, f_X10_qTakes_j75, f_X10_qTakes_j90, f_X10_qTakes_j133, h118, n_i8, n_i16, n_0, n_31, n_add, n_sub, n_mul, n_neg, n_div, n_rem, n_le_t, n_le_f, n_lt_t, n_lt_f, n_eq_t, n_eq_f, n_cl, n_gd, n_gdt, n_nz, Int.reduceToNat, Int.reduceAdd, Int.reduceSub, Int.reduceMul, Int.reduceNeg, Int.reduceLT, Int.reduceLE, Int.reduceEq, Int.reduceDiv, Int.reduceMod, Nat.reduceAdd, Nat.reduceMul, ↓reduceIte, l_0, l_1, l_00, l_i, l_j, l_add, l_sub, l_mul, l_gt, l_ceq, l_clt, l_nz, ltd]
        · simp (disch := omega) only [f_X10_qTakes, f_X10_qTakes_j16, f_X10_qTakes_j38, f_X10_qTakes_j55, f_X10_qTakes_j75, f_X10_qTakes_j90, f_X10_qTakes_j133, h118, n_i8, n_i16, n_0, n_31, n_add, n_sub, n_mul, n_neg, n_div, n_rem, n_le_t, n_le_f, n_lt_t, n_lt_f, n_eq_t, n_eq_f, n_cl, n_gd, n_gdt, n_nz, Int.reduceToNat, Int.reduceAdd, Int.reduceSub, Int.reduceMul, Int.reduceNeg, Int.reduceLT, Int.reduceLE, Int.reduceEq, Int.reduceDiv, Int.reduceMod, Nat.reduceAdd, Nat.reduceMul, ↓reduceIte, l_0, l_1, l_00, l_i, l_j, l_add, l_sub, l_mul, l_gt, l_ceq, l_clt, l_nz, ltd]
    · rw [if_neg (fun x => e x.1)]
      refine ⟨_, ?_, keep a rfl⟩
      by_cases e3 : v < 1
      · simp (disch := omega) only [f_X10_qTakes, f_X10_qTakes_j15, f_X10_qTakes_j16, f_X10_qTakes_j38, f_X10_qTakes_j55, f_X10_qTakes_j75, f_X10_qTakes_j90, f_X10_qTakes_j133, h118, n_i8, n_i16, n_0, n_31, n_add, n_sub, n_mul, n_neg, n_div, n_rem, n_le_t, n_le_f, n_lt_t, n_lt_f, n_eq_t, n_eq_f, n_cl, n_gd, n_gdt, n_nz, Int.reduceToNat, Int.reduceAdd, Int.reduceSub, Int.reduceMul, Int.reduceNeg, Int.reduceLT, Int.reduceLE, Int.reduceEq, Int.reduceDiv, Int.reduceMod, Nat.reduceAdd, Nat.reduceMul, ↓reduceIte, l_0, l_1, l_00, l_i, l_j, l_add, l_sub, l_mul, l_gt, l_ceq, l_clt, l_nz, ltd]
      · simp (disch := omega) only [f_X10_qTakes, f_X10_qTakes_j15, f_X10_qTakes_j16, f_X10_qTakes_j38, f_X10_qTakes_j55, f_X10_qTakes_j75, f_X10_qTakes_j90, f_X10_qTakes_j133, h118, n_i8, n_i16, n_0, n_31, n_add, n_sub, n_mul, n_neg, n_div, n_rem, n_le_t, n_le_f, n_lt_t, n_lt_f, n_eq_t, n_eq_f, n_cl, n_gd, n_gdt, n_nz, Int.reduceToNat, Int.reduceAdd, Int.reduceSub, Int.reduceMul, Int.reduceNeg, Int.reduceLT, Int.reduceLE, Int.reduceEq, Int.reduceDiv, Int.reduceMod, Nat.reduceAdd, Nat.reduceMul, ↓reduceIte, l_0, l_1, l_00, l_i, l_j, l_add, l_sub, l_mul, l_gt, l_ceq, l_clt, l_nz, ltd]
  · rw [qS1_1]
    by_cases e : v = 1
    · subst e
      rw [if_pos rfl]
      refine ⟨_, ?_, put m⟩
      simp (disch := omega) only [f_X10_qTakes, f_X10_qTakes_j16, f_X10_qTakes_j38, f_X10_qTakes_j48, f_X10_qTakes_j55, f_X10_qTakes_j75, f_X10_qTakes_j90, f_X10_qTakes_j133, h118, n_i8, n_i16, n_0, n_31, n_add, n_sub, n_mul, n_neg, n_div, n_rem, n_le_t, n_le_f, n_lt_t, n_lt_f, n_eq_t, n_eq_f, n_cl, n_gd, n_gdt, n_nz, Int.reduceToNat, Int.reduceAdd, Int.reduceSub, Int.reduceMul, Int.reduceNeg, Int.reduceLT, Int.reduceLE, Int.reduceEq, Int.reduceDiv, Int.reduceMod, Nat.reduceAdd, Nat.reduceMul, ↓reduceIte, l_0, l_1, l_00, l_i, l_j, l_add, l_sub, l_mul, l_gt, l_ceq, l_clt, l_nz, ltd]
    · rw [if_neg e]
      refine ⟨_, ?_, keep a rfl⟩
      by_cases e3 : v < 1
      · simp (disch := omega) only [f_X10_qTakes, f_X10_qTakes_j15, f_X10_qTakes_j16, f_X10_qTakes_j38, f_X10_qTakes_j55, f_X10_qTakes_j75, f_X10_qTakes_j90, f_X10_qTakes_j133, h118, n_i8, n_i16, n_0, n_31, n_add, n_sub, n_mul, n_neg, n_div, n_rem, n_le_t, n_le_f, n_lt_t, n_lt_f, n_eq_t, n_eq_f, n_cl, n_gd, n_gdt, n_nz, Int.reduceToNat, Int.reduceAdd, Int.reduceSub, Int.reduceMul, Int.reduceNeg, Int.reduceLT, Int.reduceLE, Int.reduceEq, Int.reduceDiv, Int.reduceMod, Nat.reduceAdd, Nat.reduceMul, ↓reduceIte, l_0, l_1, l_00, l_i, l_j, l_add, l_sub, l_mul, l_gt, l_ceq, l_clt, l_nz, ltd]
      · simp (disch := omega) only [f_X10_qTakes, f_X10_qTakes_j15, f_X10_qTakes_j16, f_X10_qTakes_j38, f_X10_qTakes_j55, f_X10_qTakes_j75, f_X10_qTakes_j90, f_X10_qTakes_j133, h118, n_i8, n_i16, n_0, n_31, n_add, n_sub, n_mul, n_neg, n_div, n_rem, n_le_t, n_le_f, n_lt_t, n_lt_f, n_eq_t, n_eq_f, n_cl, n_gd, n_gdt, n_nz, Int.reduceToNat, Int.reduceAdd, Int.reduceSub, Int.reduceMul, Int.reduceNeg, Int.reduceLT, Int.reduceLE, Int.reduceEq, Int.reduceDiv, Int.reduceMod, Nat.reduceAdd, Nat.reduceMul, ↓reduceIte, l_0, l_1, l_00, l_i, l_j, l_add, l_sub, l_mul, l_gt, l_ceq, l_clt, l_nz, ltd]
  · rw [qS1_2]
    by_cases e : v = 1
    · subst e
      rw [if_pos rfl]
      refine ⟨_, ?_, put (a + 1)⟩
      simp (disch := omega) only [f_X10_qTakes, f_X10_qTakes_j16, f_X10_qTakes_j38, f_X10_qTakes_j55, f_X10_qTakes_j75, f_X10_qTakes_j90, f_X10_qTakes_j133, h118, n_i8, n_i16, n_0, n_31, n_add, n_sub, n_mul, n_neg, n_div, n_rem, n_le_t, n_le_f, n_lt_t, n_lt_f, n_eq_t, n_eq_f, n_cl, n_gd, n_gdt, n_nz, Int.reduceToNat, Int.reduceAdd, Int.reduceSub, Int.reduceMul, Int.reduceNeg, Int.reduceLT, Int.reduceLE, Int.reduceEq, Int.reduceDiv, Int.reduceMod, Nat.reduceAdd, Nat.reduceMul, ↓reduceIte, l_0, l_1, l_00, l_i, l_j, l_add, l_sub, l_mul, l_gt, l_ceq, l_clt, l_nz, ltd]
    · rw [if_neg e]
      refine ⟨_, ?_, keep a rfl⟩
      by_cases e3 : v < 1
      · simp (disch := omega) only [f_X10_qTakes, f_X10_qTakes_j15, f_X10_qTakes_j16, f_X10_qTakes_j38, f_X10_qTakes_j55, f_X10_qTakes_j75, f_X10_qTakes_j90, f_X10_qTakes_j133, h118, n_i8, n_i16, n_0, n_31, n_add, n_sub, n_mul, n_neg, n_div, n_rem, n_le_t, n_le_f, n_lt_t, n_lt_f, n_eq_t, n_eq_f, n_cl, n_gd, n_gdt, n_nz, Int.reduceToNat, Int.reduceAdd, Int.reduceSub, Int.reduceMul, Int.reduceNeg, Int.reduceLT, Int.reduceLE, Int.reduceEq, Int.reduceDiv, Int.reduceMod, Nat.reduceAdd, Nat.reduceMul, ↓reduceIte, l_0, l_1, l_00, l_i, l_j, l_add, l_sub, l_mul, l_gt, l_ceq, l_clt, l_nz, ltd]
      · simp (disch := omega) only [f_X10_qTakes, f_X10_qTakes_j15, f_X10_qTakes_j16, f_X10_qTakes_j38, f_X10_qTakes_j55, f_X10_qTakes_j75, f_X10_qTakes_j90, f_X10_qTakes_j133, h118, n_i8, n_i16, n_0, n_31, n_add, n_sub, n_mul, n_neg, n_div, n_rem, n_le_t, n_le_f, n_lt_t, n_lt_f, n_eq_t, n_eq_f, n_cl, n_gd, n_gdt, n_nz, Int.reduceToNat, Int.reduceAdd, Int.reduceSub, Int.reduceMul, Int.reduceNeg, Int.reduceLT, Int.reduceLE, Int.reduceEq, Int.reduceDiv, Int.reduceMod, Nat.reduceAdd, Nat.reduceMul, ↓reduceIte, l_0, l_1, l_00, l_i, l_j, l_add, l_sub, l_mul, l_gt, l_ceq, l_clt, l_nz, ltd]
  · rw [qS1_3]
    refine ⟨_, ?_, put (a + v)⟩
    simp (disch := omega) only [f_X10_qTakes, f_X10_qTakes_j15, f_X10_qTakes_j16, f_X10_qTakes_j38, f_X10_qTakes_j55, f_X10_qTakes_j75, f_X10_qTakes_j90, f_X10_qTakes_j133, h118, n_i8, n_i16, n_0, n_31, n_add, n_sub, n_mul, n_neg, n_div, n_rem, n_le_t, n_le_f, n_lt_t, n_lt_f, n_eq_t, n_eq_f, n_cl, n_gd, n_gdt, n_nz, Int.reduceToNat, Int.reduceAdd, Int.reduceSub, Int.reduceMul, Int.reduceNeg, Int.reduceLT, Int.reduceLE, Int.reduceEq, Int.reduceDiv, Int.reduceMod, Nat.reduceAdd, Nat.reduceMul, ↓reduceIte, l_0, l_1, l_00, l_i, l_j, l_add, l_sub, l_mul, l_gt, l_ceq, l_clt, l_nz, ltd]
  · rw [qS1_4]
    cases z with
    | true =>
      rw [if_pos (Or.inl rfl)]
      rw [bI_t] at h119
      refine ⟨_, ?_, put v⟩
      simp (disch := omega) only [f_X10_qTakes, f_X10_qTakes_j15, f_X10_qTakes_j16, f_X10_qTakes_j38, f_X10_qTakes_j55, f_X10_qTakes_j75, f_X10_qTakes_j90, f_X10_qTakes_j128, f_X10_qTakes_j133, h118, h119, n_i8, n_i16, n_0, n_31, n_add, n_sub, n_mul, n_neg, n_div, n_rem, n_le_t, n_le_f, n_lt_t, n_lt_f, n_eq_t, n_eq_f, n_cl, n_gd, n_gdt, n_nz, Int.reduceToNat, Int.reduceAdd, Int.reduceSub, Int.reduceMul, Int.reduceNeg, Int.reduceLT, Int.reduceLE, Int.reduceEq, Int.reduceDiv, Int.reduceMod, Nat.reduceAdd, Nat.reduceMul, ↓reduceIte, l_0, l_1, l_00, l_i, l_j, l_add, l_sub, l_mul, l_gt, l_ceq, l_clt, l_nz, ltd]
    | false =>
      rw [bI_f] at h119
      by_cases e : a < v
      · rw [if_pos (Or.inr e)]
        refine ⟨_, ?_, put v⟩
        simp (disch := omega) only [f_X10_qTakes, f_X10_qTakes_j15, f_X10_qTakes_j16, f_X10_qTakes_j38, f_X10_qTakes_j55, f_X10_qTakes_j75, f_X10_qTakes_j90, f_X10_qTakes_j128, f_X10_qTakes_j133, h118, h119, n_i8, n_i16, n_0, n_31, n_add, n_sub, n_mul, n_neg, n_div, n_rem, n_le_t, n_le_f, n_lt_t, n_lt_f, n_eq_t, n_eq_f, n_cl, n_gd, n_gdt, n_nz, Int.reduceToNat, Int.reduceAdd, Int.reduceSub, Int.reduceMul, Int.reduceNeg, Int.reduceLT, Int.reduceLE, Int.reduceEq, Int.reduceDiv, Int.reduceMod, Nat.reduceAdd, Nat.reduceMul, ↓reduceIte, l_0, l_1, l_00, l_i, l_j, l_add, l_sub, l_mul, l_gt, l_ceq, l_clt, l_nz, ltd]
      · rw [if_neg (fun x => by rcases x with x | x; cases x; omega)]
        refine ⟨_, ?_, keep a rfl⟩
        by_cases e2 : v = a
        · simp (disch := omega) only [f_X10_qTakes, f_X10_qTakes_j15, f_X10_qTakes_j16, f_X10_qTakes_j38, f_X10_qTakes_j55, f_X10_qTakes_j75, f_X10_qTakes_j90, f_X10_qTakes_j128, f_X10_qTakes_j133, h118, h119, n_i8, n_i16, n_0, n_31, n_add, n_sub, n_mul, n_neg, n_div, n_rem, n_le_t, n_le_f, n_lt_t, n_lt_f, n_eq_t, n_eq_f, n_cl, n_gd, n_gdt, n_nz, Int.reduceToNat, Int.reduceAdd, Int.reduceSub, Int.reduceMul, Int.reduceNeg, Int.reduceLT, Int.reduceLE, Int.reduceEq, Int.reduceDiv, Int.reduceMod, Nat.reduceAdd, Nat.reduceMul, ↓reduceIte, l_0, l_1, l_00, l_i, l_j, l_add, l_sub, l_mul, l_gt, l_ceq, l_clt, l_nz, ltd]
        · simp (disch := omega) only [f_X10_qTakes, f_X10_qTakes_j15, f_X10_qTakes_j16, f_X10_qTakes_j38, f_X10_qTakes_j55, f_X10_qTakes_j75, f_X10_qTakes_j90, f_X10_qTakes_j128, f_X10_qTakes_j133, h118, h119, n_i8, n_i16, n_0, n_31, n_add, n_sub, n_mul, n_neg, n_div, n_rem, n_le_t, n_le_f, n_lt_t, n_lt_f, n_eq_t, n_eq_f, n_cl, n_gd, n_gdt, n_nz, Int.reduceToNat, Int.reduceAdd, Int.reduceSub, Int.reduceMul, Int.reduceNeg, Int.reduceLT, Int.reduceLE, Int.reduceEq, Int.reduceDiv, Int.reduceMod, Nat.reduceAdd, Nat.reduceMul, ↓reduceIte, l_0, l_1, l_00, l_i, l_j, l_add, l_sub, l_mul, l_gt, l_ceq, l_clt, l_nz, ltd]
  · rw [qS1_5]
    cases z with
    | true =>
      rw [if_pos (Or.inl rfl)]
      rw [bI_t] at h119
      refine ⟨_, ?_, put v⟩
      simp (disch := omega) only [f_X10_qTakes, f_X10_qTakes_j15, f_X10_qTakes_j16, f_X10_qTakes_j38, f_X10_qTakes_j55, f_X10_qTakes_j75, f_X10_qTakes_j90, f_X10_qTakes_j128, f_X10_qTakes_j133, h118, h119, n_i8, n_i16, n_0, n_31, n_add, n_sub, n_mul, n_neg, n_div, n_rem, n_le_t, n_le_f, n_lt_t, n_lt_f, n_eq_t, n_eq_f, n_cl, n_gd, n_gdt, n_nz, Int.reduceToNat, Int.reduceAdd, Int.reduceSub, Int.reduceMul, Int.reduceNeg, Int.reduceLT, Int.reduceLE, Int.reduceEq, Int.reduceDiv, Int.reduceMod, Nat.reduceAdd, Nat.reduceMul, ↓reduceIte, l_0, l_1, l_00, l_i, l_j, l_add, l_sub, l_mul, l_gt, l_ceq, l_clt, l_nz, ltd]
    | false =>
      rw [bI_f] at h119
      by_cases e : v < a
      · rw [if_pos (Or.inr e)]
        refine ⟨_, ?_, put v⟩
        simp (disch := omega) only [f_X10_qTakes, f_X10_qTakes_j15, f_X10_qTakes_j16, f_X10_qTakes_j38, f_X10_qTakes_j55, f_X10_qTakes_j75, f_X10_qTakes_j90, f_X10_qTakes_j128, f_X10_qTakes_j133, h118, h119, n_i8, n_i16, n_0, n_31, n_add, n_sub, n_mul, n_neg, n_div, n_rem, n_le_t, n_le_f, n_lt_t, n_lt_f, n_eq_t, n_eq_f, n_cl, n_gd, n_gdt, n_nz, Int.reduceToNat, Int.reduceAdd, Int.reduceSub, Int.reduceMul, Int.reduceNeg, Int.reduceLT, Int.reduceLE, Int.reduceEq, Int.reduceDiv, Int.reduceMod, Nat.reduceAdd, Nat.reduceMul, ↓reduceIte, l_0, l_1, l_00, l_i, l_j, l_add, l_sub, l_mul, l_gt, l_ceq, l_clt, l_nz, ltd]
      · rw [if_neg (fun x => by rcases x with x | x; cases x; omega)]
        refine ⟨_, ?_, keep a rfl⟩
        by_cases e2 : v = a
        · simp (disch := omega) only [f_X10_qTakes, f_X10_qTakes_j15, f_X10_qTakes_j16, f_X10_qTakes_j38, f_X10_qTakes_j55, f_X10_qTakes_j75, f_X10_qTakes_j90, f_X10_qTakes_j128, f_X10_qTakes_j133, h118, h119, n_i8, n_i16, n_0, n_31, n_add, n_sub, n_mul, n_neg, n_div, n_rem, n_le_t, n_le_f, n_lt_t, n_lt_f, n_eq_t, n_eq_f, n_cl, n_gd, n_gdt, n_nz, Int.reduceToNat, Int.reduceAdd, Int.reduceSub, Int.reduceMul, Int.reduceNeg, Int.reduceLT, Int.reduceLE, Int.reduceEq, Int.reduceDiv, Int.reduceMod, Nat.reduceAdd, Nat.reduceMul, ↓reduceIte, l_0, l_1, l_00, l_i, l_j, l_add, l_sub, l_mul, l_gt, l_ceq, l_clt, l_nz, ltd]
        · simp (disch := omega) only [f_X10_qTakes, f_X10_qTakes_j15, f_X10_qTakes_j16, f_X10_qTakes_j38, f_X10_qTakes_j55, f_X10_qTakes_j75, f_X10_qTakes_j90, f_X10_qTakes_j128, f_X10_qTakes_j133, h118, h119, n_i8, n_i16, n_0, n_31, n_add, n_sub, n_mul, n_neg, n_div, n_rem, n_le_t, n_le_f, n_lt_t, n_lt_f, n_eq_t, n_eq_f, n_cl, n_gd, n_gdt, n_nz, Int.reduceToNat, Int.reduceAdd, Int.reduceSub, Int.reduceMul, Int.reduceNeg, Int.reduceLT, Int.reduceLE, Int.reduceEq, Int.reduceDiv, Int.reduceMod, Nat.reduceAdd, Nat.reduceMul, ↓reduceIte, l_0, l_1, l_00, l_i, l_j, l_add, l_sub, l_mul, l_gt, l_ceq, l_clt, l_nz, ltd]
/-- how each man may move -/
theorem m_ask183 {B : Brd} {G : Gam} {x1 : Int32} (K : Int32 → ST → Option (Int64 × ST)) : ∀ (nn F : Nat) (i : Int) (s : ST), MA B G s → 0 ≤ i → (nn : Int) = bM B - i → nn < F → (∀ j : Int, 0 ≤ j → j < i → s.1 118 j.toNat = Int32.ofInt (nMov B G j)) → ∃ s', f_X10_ask_L183 K F x1 (Int32.ofInt i) s = K x1 s' ∧ (∀ j : Int, 0 ≤ j → j < bM B → s'.1 118 j.toNat = Int32.ofInt (nMov B G j)) ∧ (∀ o k : Nat, ¬ o = 118 → s'.1 o k = s.1 o k) ∧ s'.2 = s.2 := by
  intro nn
  induction nn with
  | zero =>
    intro F i s h i0 hn hF hj
    obtain ⟨F, rfl⟩ : ∃ F', F = F' + 1 := ⟨F - 1, by omega⟩
    have hM : bM B ≤ 8 := h.1.1.1.2.2.2.2.2.2.2.1
    have a1 := m_manMany h
    refine ⟨s, ?_, fun j j0 j1 => hj j j0 (by omega), fun _ _ _ => rfl, rfl⟩
    simp (disch := omega) only [f_X10_ask_L183, ↓bb a1, n_i8, n_i16, n_0, n_31, n_add, n_sub, n_mul, n_neg, n_div, n_rem, n_le_t, n_le_f, n_lt_t, n_lt_f, n_eq_t, n_eq_f, n_cl, n_gd, n_gdt, n_nz, Int.reduceToNat, Int.reduceAdd, Int.reduceSub, Int.reduceMul, Int.reduceNeg, Int.reduceLT, Int.reduceLE, Int.reduceEq, Int.reduceDiv, Int.reduceMod, Nat.reduceAdd, Nat.reduceMul, ↓reduceIte]
  | succ nn ih =>
    intro F i s h i0 hn hF hj
    obtain ⟨F, rfl⟩ : ∃ F', F = F' + 1 := ⟨F - 1, by omega⟩
    have hM : bM B ≤ 8 := h.1.1.1.2.2.2.2.2.2.2.1
    have a1 := m_manMany h
    have a2 := m_isTaken h i0 (show i < bM B by omega)
    have hf : ∀ o k : Nat, ¬ (o = 118 ∧ k = i.toNat) → (uI s 118 i.toNat (Int32.ofInt (nMov B G i))).1 o k = s.1 o k := fun o k x => by (simp only [ua, ja, u_2, u_3, j_1, j_3]; (repeat' split) <;> first | rfl | (exfalso; omega))
    obtain ⟨s', q1, q2, q3, q4⟩ := ih F (i + 1) (uI s 118 i.toNat (Int32.ofInt (nMov B G i))) (MA_fr h (fun o k x => hf o k (by omega))) (by omega) (by omega) (by omega) (fun j j0 j1 => by
      by_cases e : j = i
      · subst e; rw [u_eq]
      · rw [hf _ _ (by omega)]; exact hj j j0 (by omega))
    refine ⟨s', ?_, q2, fun o k x => (q3 o k x).trans (hf o k (by omega)), q4⟩
    rw [← q1, f_X10_ask_L183]
    by_cases e : gx G i = -1
    · rw [decide_eq_true e] at a2
      have ez : nMov B G i = 0 := nMov_tk h.1 e
      have a2 : f_X10_isTaken (Int32.ofInt i) s = some (Int32.ofInt 1, s) := a2
      rw [ez]
      simp (disch := omega) only [f_X10_ask_j213, ↓bb a1, ↓bb a2, n_i8, n_i16, n_0, n_31, n_add, n_sub, n_mul, n_neg, n_div, n_rem, n_le_t, n_le_f, n_lt_t, n_lt_f, n_eq_t, n_eq_f, n_cl, n_gd, n_gdt, n_nz, Int.reduceToNat, Int.reduceAdd, Int.reduceSub, Int.reduceMul, Int.reduceNeg, Int.reduceLT, Int.reduceLE, Int.reduceEq, Int.reduceDiv, Int.reduceMod, Nat.reduceAdd, Nat.reduceMul, ↓reduceIte, ltd]
    · rw [decide_eq_false e] at a2
      have a2 : f_X10_isTaken (Int32.ofInt i) s = some (Int32.ofInt 0, s) := a2
      have a3 := m_movesOf h i0 (show i < bM B by omega)
      simp (disch := omega) only [f_X10_ask_j213, ↓bb a1, ↓bb a2, ↓bb a3, n_i8, n_i16, n_0, n_31, n_add, n_sub, n_mul, n_neg, n_div, n_rem, n_le_t, n_le_f, n_lt_t, n_lt_f, n_eq_t, n_eq_f, n_cl, n_gd, n_gdt, n_nz, Int.reduceToNat, Int.reduceAdd, Int.reduceSub, Int.reduceMul, Int.reduceNeg, Int.reduceLT, Int.reduceLE, Int.reduceEq, Int.reduceDiv, Int.reduceMod, Nat.reduceAdd, Nat.reduceMul, ↓reduceIte, ltd]
def QAA (B : Brd) (G : Gam) (cs : List Int) (s : ST) : Prop := MA B G s ∧ (∀ j : Int, 0 ≤ j → j < bM B → s.1 118 j.toNat = Int32.ofInt (nMov B G j)) ∧ s.1 65 111 = Int32.ofInt (cs.length : Int) ∧ ∀ i : Nat, i < cs.length → s.1 146 i = Int32.ofInt (cs.getD i 0)
theorem QAA_f {B : Brd} {G : Gam} {cs : List Int} {s s' : ST} (h : QAA B G cs s) (hf : QTf s s') : QAA B G cs s' := ⟨MA_fr h.1 (fun o k x => hf.1 o k (by omega)), fun j j0 j1 => (hf.1 118 _ (by omega)).trans (h.2.1 j j0 j1), (hf.1 65 111 (by omega)).trans h.2.2.1, fun i hi => (hf.1 146 i (by omega)).trans (h.2.2.2 i hi)⟩
theorem m_ask227 {B : Brd} {G : Gam} {cs : List Int} {t : Bool} {k : Int} (k0 : 0 ≤ k) (k5 : k ≤ 5) (hl : (cs.length : Int) ≤ 1600) (hc : ∀ v ∈ cs, cdP true v) (hty : tyL cs [] = some [t]) (K : ST → Option (Int64 × ST)) : ∀ (nn F : Nat) (i a : Int) (z : Bool) (s : ST), QAA B G cs s → s.2.1 65 118 = Int64.ofInt a → s.1 65 119 = bI z → 0 ≤ i → (nn : Int) = bM B - i → nn < F → -(1000000 * (i + 1)) ≤ a → a ≤ 1000000 * (i + 1) → ∃ s', f_X10_ask_L227 K F (Int32.ofInt k) (Int32.ofInt i) s = K s' ∧ s'.2.1 65 118 = Int64.ofInt (qFo G (qVa B G cs) k nn i a z) ∧ QTf s s' := by
  intro nn
  induction nn with
  | zero =>
    intro F i a z s h h118 h119 i0 hn hF a0 a1
    obtain ⟨F, rfl⟩ : ∃ F', F = F' + 1 := ⟨F - 1, by omega⟩
    have hM : bM B ≤ 8 := h.1.1.1.1.2.2.2.2.2.2.2.1
    have b1 := m_manMany h.1
    refine ⟨s, ?_, h118, QTf.rf s⟩
    simp (disch := omega) only [f_X10_ask_L227, ↓bb b1, n_i8, n_i16, n_0, n_31, n_add, n_sub, n_mul, n_neg, n_div, n_rem, n_le_t, n_le_f, n_lt_t, n_lt_f, n_eq_t, n_eq_f, n_cl, n_gd, n_gdt, n_nz, Int.reduceToNat, Int.reduceAdd, Int.reduceSub, Int.reduceMul, Int.reduceNeg, Int.reduceLT, Int.reduceLE, Int.reduceEq, Int.reduceDiv, Int.reduceMod, Nat.reduceAdd, Nat.reduceMul, ↓reduceIte]
  | succ nn ih =>
    intro F i a z s h h118 h119 i0 hn hF a0 a1
    obtain ⟨F, rfl⟩ : ∃ F', F = F' + 1 := ⟨F - 1, by omega⟩
    have hM : bM B ≤ 8 := h.1.1.1.1.2.2.2.2.2.2.2.1
    have b1 := m_manMany h.1
    have b2 := m_isTaken h.1 i0 (show i < bM B by omega)
    unfold qFo
    by_cases e : gx G i = -1
    · rw [if_pos e]
      rw [decide_eq_true e] at b2
      have b2 : f_X10_isTaken (Int32.ofInt i) s = some (Int32.ofInt 1, s) := b2
      obtain ⟨s', q1, q2⟩ := ih F (i + 1) a z s h h118 h119 (by omega) (by omega) (by omega) (by omega) (by omega)
      refine ⟨s', ?_, q2⟩
      rw [← q1, f_X10_ask_L227]
      simp (disch := omega) only [↓bb b1, ↓bb b2, n_i8, n_i16, n_0, n_31, n_add, n_sub, n_mul, n_neg, n_div, n_rem, n_le_t, n_le_f, n_lt_t, n_lt_f, n_eq_t, n_eq_f, n_cl, n_gd, n_gdt, n_nz, Int.reduceToNat, Int.reduceAdd, Int.reduceSub, Int.reduceMul, Int.reduceNeg, Int.reduceLT, Int.reduceLE, Int.reduceEq, Int.reduceDiv, Int.reduceMod, Nat.reduceAdd, Nat.reduceMul, ↓reduceIte]
    · rw [if_neg e]
      rw [decide_eq_false e] at b2
      have b2 : f_X10_isTaken (Int32.ofInt i) s = some (Int32.ofInt 0, s) := b2
      obtain ⟨s1, p1, p2, p3⟩ := m_qTold i0 (show i < bM B by omega) hl hc hty (s := s) ⟨h.1, h.2.1 i i0 (by omega), h.2.2⟩
      obtain ⟨s2, r1, r2, r3, r4⟩ := m_qTakes (k := k) (m := i) (v := qVa B G cs i) (a := a) (z := z) (s := s1) k0 k5 i0 (by omega) p2.1 (by omega) (by omega) ((p3.2.1 65 118 (by omega)).trans h118) ((p3.1 65 119 (by omega)).trans h119)
      have hb := qS1_b (k := k) (m := i) (v := qVa B G cs i) (a := a) (z := z) i0 (by omega) p2.1 a0 a1 (by omega)
      obtain ⟨s', q1, q2, q3⟩ := ih F (i + 1) _ false s2 (QAA_f h (p3.qt.tr r4)) r2 r3 (by omega) (by omega) (by omega) (by omega) (by omega)
      refine ⟨s', ?_, q2, (p3.qt.tr r4).tr q3⟩
      rw [← q1, f_X10_ask_L227]
      simp (disch := omega) only [↓bb b1, ↓bb b2, ↓bb p1, ↓bb r1, n_i8, n_i16, n_0, n_31, n_add, n_sub, n_mul, n_neg, n_div, n_rem, n_le_t, n_le_f, n_lt_t, n_lt_f, n_eq_t, n_eq_f, n_cl, n_gd, n_gdt, n_nz, Int.reduceToNat, Int.reduceAdd, Int.reduceSub, Int.reduceMul, Int.reduceNeg, Int.reduceLT, Int.reduceLE, Int.reduceEq, Int.reduceDiv, Int.reduceMod, Nat.reduceAdd, Nat.reduceMul, ↓reduceIte]
variable {T : Int → Int} {n : Int}
/-- which question -/
theorem m_qKind {c : Cur} {s : ST} (h : RC T n c s) (hw : WDS s) : ∃ v s', f_X10_qKind s = some (v, s') ∧ RPf s s' ∧ (isW T n c = true ∧ 33 ≤ wix T n c ∧ wix T n c ≤ 38 → v = Int32.ofInt (wix T n c - 33) ∧ RC T n (nxW T n c) s') ∧ (¬ (isW T n c = true ∧ 33 ≤ wix T n c ∧ wix T n c ≤ 38) → v = Int32.ofInt 5 ∧ RB 1 (frm T n c) s') := by
  have yes : ∀ k : Nat, k < 39 → isWL T n c (WDl k) = true → isW T n c = true ∧ wix T n c = (k : Int) := by
    intro k hk x
    rw [isWL_ix hk, Bool.and_eq_true, decide_eq_true_iff] at x
    exact x
  have no : ∀ k : Nat, k < 39 → isWL T n c (WDl k) = false → isW T n c = true → ¬ wix T n c = (k : Int) := by
    intro k hk x y z
    rw [isWL_ix hk, y, decide_eq_true z] at x
    cases x
  obtain ⟨s1, a1, a2, a3, a4⟩ := m_takes h hw (o := 123) (by unfold wce; omega)
  have a1 : f_X10_takes 123 s = some (bI (isWL T n c (WDl 33)), s1) := a1
  cases e1 : isWL T n c (WDl 33) with
  | true =>
    rw [e1] at a1
    have a1 : f_X10_takes 123 s = some (Int32.ofInt 1, s1) := a1
    obtain ⟨y1, y2⟩ := yes 33 (by omega) e1
    have y2 : wix T n c = 33 := y2
    refine ⟨Int32.ofInt 0, s1, ?_, a4, fun _ => ⟨by rw [y2]; rfl, a2 e1⟩, fun x => absurd ⟨y1, by omega, by omega⟩ x⟩
    simp (disch := omega) only [f_X10_qKind, f_X10_qKind_j76, ↓bb a1, n_i8, n_i16, n_0, n_31, n_add, n_sub, n_mul, n_neg, n_div, n_rem, n_le_t, n_le_f, n_lt_t, n_lt_f, n_eq_t, n_eq_f, n_cl, n_gd, n_gdt, n_nz, Int.reduceToNat, Int.reduceAdd, Int.reduceSub, Int.reduceMul, Int.reduceNeg, Int.reduceLT, Int.reduceLE, Int.reduceEq, Int.reduceDiv, Int.reduceMod, Nat.reduceAdd, Nat.reduceMul, ↓reduceIte]
  | false =>
  rw [e1] at a1
  have a1 : f_X10_takes 123 s = some (Int32.ofInt 0, s1) := a1
  have hw1 : WDS s1 := WDS_fr hw (fun o k ho => a4.1 o k (by omega))
  obtain ⟨s2, b1, b2, b3, b4⟩ := m_takes (a3 e1).rc hw1 (o := 124) (by unfold wce; omega)
  have b1 : f_X10_takes 124 s1 = some (bI (isWL T n c (WDl 34)), s2) := b1
  cases e2 : isWL T n c (WDl 34) with
  | true =>
    rw [e2] at b1
    have b1 : f_X10_takes 124 s1 = some (Int32.ofInt 1, s2) := b1
    obtain ⟨y1, y2⟩ := yes 34 (by omega) e2
    have y2 : wix T n c = 34 := y2
    refine ⟨Int32.ofInt 1, s2, ?_, a4.tr b4, fun _ => ⟨by rw [y2]; rfl, b2 e2⟩, fun x => absurd ⟨y1, by omega, by omega⟩ x⟩
    simp (disch := omega) only [f_X10_qKind, f_X10_qKind_j76, ↓bb a1, ↓bb b1, n_i8, n_i16, n_0, n_31, n_add, n_sub, n_mul, n_neg, n_div, n_rem, n_le_t, n_le_f, n_lt_t, n_lt_f, n_eq_t, n_eq_f, n_cl, n_gd, n_gdt, n_nz, Int.reduceToNat, Int.reduceAdd, Int.reduceSub, Int.reduceMul, Int.reduceNeg, Int.reduceLT, Int.reduceLE, Int.reduceEq, Int.reduceDiv, Int.reduceMod, Nat.reduceAdd, Nat.reduceMul, ↓reduceIte]
  | false =>
  rw [e2] at b1
  have b1 : f_X10_takes 124 s1 = some (Int32.ofInt 0, s2) := b1
  have hw2 : WDS s2 := WDS_fr hw1 (fun o k ho => b4.1 o k (by omega))
  obtain ⟨s3, c1, c2, c3, c4⟩ := m_takes (b3 e2).rc hw2 (o := 125) (by unfold wce; omega)
  have c1 : f_X10_takes 125 s2 = some (bI (isWL T n c (WDl 35)), s3) := c1
  cases e3 : isWL T n c (WDl 35) with
  | true =>
    rw [e3] at c1
    have c1 : f_X10_takes 125 s2 = some (Int32.ofInt 1, s3) := c1
    obtain ⟨y1, y2⟩ := yes 35 (by omega) e3
    have y2 : wix T n c = 35 := y2
    refine ⟨Int32.ofInt 2, s3, ?_, (a4.tr b4).tr c4, fun _ => ⟨by rw [y2]; rfl, c2 e3⟩, fun x => absurd ⟨y1, by omega, by omega⟩ x⟩
    simp (disch := omega) only [f_X10_qKind, f_X10_qKind_j76, ↓bb a1, ↓bb b1, ↓bb c1, n_i8, n_i16, n_0, n_31, n_add, n_sub, n_mul, n_neg, n_div, n_rem, n_le_t, n_le_f, n_lt_t, n_lt_f, n_eq_t, n_eq_f, n_cl, n_gd, n_gdt, n_nz, Int.reduceToNat, Int.reduceAdd, Int.reduceSub, Int.reduceMul, Int.reduceNeg, Int.reduceLT, Int.reduceLE, Int.reduceEq, Int.reduceDiv, Int.reduceMod, Nat.reduceAdd, Nat.reduceMul, ↓reduceIte]
  | false =>
  rw [e3] at c1
  have c1 : f_X10_takes 125 s2 = some (Int32.ofInt 0, s3) := c1
  have hw3 : WDS s3 := WDS_fr hw2 (fun o k ho => c4.1 o k (by omega))
  obtain ⟨s4, d1, d2, d3, d4⟩ := m_takes (c3 e3).rc hw3 (o := 126) (by unfold wce; omega)
  have d1 : f_X10_takes 126 s3 = some (bI (isWL T n c (WDl 36)), s4) := d1
  cases e4 : isWL T n c (WDl 36) with
  | true =>
    rw [e4] at d1
    have d1 : f_X10_takes 126 s3 = some (Int32.ofInt 1, s4) := d1
    obtain ⟨y1, y2⟩ := yes 36 (by omega) e4
    have y2 : wix T n c = 36 := y2
    refine ⟨Int32.ofInt 3, s4, ?_, ((a4.tr b4).tr c4).tr d4, fun _ => ⟨by rw [y2]; rfl, d2 e4⟩, fun x => absurd ⟨y1, by omega, by omega⟩ x⟩
    simp (disch := omega) only [f_X10_qKind, f_X10_qKind_j76, ↓bb a1, ↓bb b1, ↓bb c1, ↓bb d1, n_i8, n_i16, n_0, n_31, n_add, n_sub, n_mul, n_neg, n_div, n_rem, n_le_t, n_le_f, n_lt_t, n_lt_f, n_eq_t, n_eq_f, n_cl, n_gd, n_gdt, n_nz, Int.reduceToNat, Int.reduceAdd, Int.reduceSub, Int.reduceMul, Int.reduceNeg, Int.reduceLT, Int.reduceLE, Int.reduceEq, Int.reduceDiv, Int.reduceMod, Nat.reduceAdd, Nat.reduceMul, ↓reduceIte]
  | false =>
  rw [e4] at d1
  have d1 : f_X10_takes 126 s3 = some (Int32.ofInt 0, s4) := d1
  have hw4 : WDS s4 := WDS_fr hw3 (fun o k ho => d4.1 o k (by omega))
  obtain ⟨s5, f1, f2, f3, f4⟩ := m_takes (d3 e4).rc hw4 (o := 127) (by unfold wce; omega)
  have f1 : f_X10_takes 127 s4 = some (bI (isWL T n c (WDl 37)), s5) := f1
  cases e5 : isWL T n c (WDl 37) with
  | true =>
    rw [e5] at f1
    have f1 : f_X10_takes 127 s4 = some (Int32.ofInt 1, s5) := f1
    obtain ⟨y1, y2⟩ := yes 37 (by omega) e5
    have y2 : wix T n c = 37 := y2
    refine ⟨Int32.ofInt 4, s5, ?_, (((a4.tr b4).tr c4).tr d4).tr f4, fun _ => ⟨by rw [y2]; rfl, f2 e5⟩, fun x => absurd ⟨y1, by omega, by omega⟩ x⟩
    simp (disch := omega) only [f_X10_qKind, f_X10_qKind_j76, ↓bb a1, ↓bb b1, ↓bb c1, ↓bb d1, ↓bb f1, n_i8, n_i16, n_0, n_31, n_add, n_sub, n_mul, n_neg, n_div, n_rem, n_le_t, n_le_f, n_lt_t, n_lt_f, n_eq_t, n_eq_f, n_cl, n_gd, n_gdt, n_nz, Int.reduceToNat, Int.reduceAdd, Int.reduceSub, Int.reduceMul, Int.reduceNeg, Int.reduceLT, Int.reduceLE, Int.reduceEq, Int.reduceDiv, Int.reduceMod, Nat.reduceAdd, Nat.reduceMul, ↓reduceIte]
  | false =>
  rw [e5] at f1
  have f1 : f_X10_takes 127 s4 = some (Int32.ofInt 0, s5) := f1
  have hw5 : WDS s5 := WDS_fr hw4 (fun o k ho => f4.1 o k (by omega))
  obtain ⟨s6, g1, g2, g3, g4⟩ := m_asks (f3 e5).rc hw5 (o := 128) (by unfold wce; omega)
  refine ⟨Int32.ofInt 5, s6, ?_, ((((a4.tr b4).tr c4).tr d4).tr f4).tr g4, fun x => ?_, fun x => ⟨rfl, ?_⟩⟩
  · simp (disch := omega) only [f_X10_qKind, f_X10_qKind_j76, ↓bb a1, ↓bb b1, ↓bb c1, ↓bb d1, ↓bb f1, ↓bb g1, n_i8, n_i16, n_0, n_31, n_add, n_sub, n_mul, n_neg, n_div, n_rem, n_le_t, n_le_f, n_lt_t, n_lt_f, n_eq_t, n_eq_f, n_cl, n_gd, n_gdt, n_nz, Int.reduceToNat, Int.reduceAdd, Int.reduceSub, Int.reduceMul, Int.reduceNeg, Int.reduceLT, Int.reduceLE, Int.reduceEq, Int.reduceDiv, Int.reduceMod, Nat.reduceAdd, Nat.reduceMul, ↓reduceIte]
  · have z1 := no 33 (by omega) e1 x.1
    have z2 := no 34 (by omega) e2 x.1
    have z3 := no 35 (by omega) e3 x.1
    have z4 := no 36 (by omega) e4 x.1
    have z5 := no 37 (by omega) e5 x.1
    have y2 : wix T n c = 38 := by omega
    refine ⟨by rw [y2]; rfl, g2 ?_⟩
    show isWL T n c (WDl 38) = true
    rw [isWL_ix (by omega), x.1, y2]
    rfl
  · refine g3 ?_
    show isWL T n c (WDl 38) = false
    cases e6 : isWL T n c (WDl 38) with
    | false => rfl
    | true =>
      obtain ⟨y1, y2⟩ := yes 38 (by omega) e6
      exact absurd ⟨y1, by omega, by omega⟩ x
