/-! L3: the reference's board stands -/
theorem st_L7 (K : ST → Option ST) (s0 : ST) : ∀ (m F i : Nat) (s : ST), (∀ o k : Nat, ¬ (o = 101 ∧ 3 ≤ k ∧ k < 3 + i) → s.1 o k = s0.1 o k) → (∀ j : Nat, j < i → s.1 101 (3 + j) = s0.1 101 j) → s.2 = s0.2 → i + m = 3 → m < F → ∃ s', f_X10_stands_L7 K F (Int32.ofInt (i : Int)) s = K s' ∧ (∀ o k : Nat, ¬ (o = 101 ∧ 3 ≤ k ∧ k < 6) → s'.1 o k = s0.1 o k) ∧ (∀ j : Nat, j < 3 → s'.1 101 (3 + j) = s0.1 101 j) ∧ s'.2 = s0.2 := by
  intro m
  induction m with
  | zero =>
    intro F i s h1 h2 h3 hi hF
    obtain ⟨F, rfl⟩ : ∃ F', F = F' + 1 := ⟨F - 1, by omega⟩
    have e : i = 3 := by omega
    subst e
    refine ⟨s, ?_, fun o k x => h1 o k (by omega), h2, h3⟩
    simp (disch := omega) only [f_X10_stands_L7, n_i8, n_i16, n_0, n_31, n_add, n_sub, n_mul, n_neg, n_div, n_rem, n_le_t, n_le_f, n_lt_t, n_lt_f, n_eq_t, n_eq_f, n_cl, n_gd, n_gdt, n_nz, Int.reduceToNat, Int.reduceAdd, Int.reduceSub, Int.reduceMul, Int.reduceNeg, Int.reduceLT, Int.reduceLE, Int.reduceEq, Int.reduceDiv, Int.reduceMod, Nat.reduceAdd, Nat.reduceMul, ↓reduceIte]
  | succ m ih =>
    intro F i s h1 h2 h3 hi hF
    obtain ⟨F, rfl⟩ : ∃ F', F = F' + 1 := ⟨F - 1, by omega⟩
    have ecl : (Int32.ofInt (i : Int)).toNatClampNeg = i := by rw [n_cl (by omega) (by omega)]; omega
    have ecl2 : (Int32.ofInt (3 + (i : Int))).toNatClampNeg = 3 + i := by rw [n_cl (by omega) (by omega)]; omega
    have hv : s.1 101 i = s0.1 101 i := h1 101 i (by omega)
    have hfr : ∀ o k : Nat, ¬ (o = 101 ∧ k = 3 + i) → (uI s 101 (3 + i) (s0.1 101 i)).1 o k = s.1 o k := fun o k x => by (simp only [ua, ja, u_2, u_3, j_1, j_3]; (repeat' split) <;> first | rfl | (exfalso; omega))
    obtain ⟨s', q1, q2, q3, q4⟩ := ih F (i + 1) (uI s 101 (3 + i) (s0.1 101 i)) (fun o k x => (hfr o k (by omega)).trans (h1 o k (by omega))) (fun j hj => by
      by_cases e : j = i
      · subst e; rw [u_eq]
      · exact (hfr 101 (3 + j) (by omega)).trans (h2 j (by omega))) h3 (by omega) (by omega)
    refine ⟨s', ?_, q2, q3, q4⟩
    rw [← q1, f_X10_stands_L7, show ((i + 1 : Nat) : Int) = (i : Int) + 1 by omega]
    simp (disch := omega) only [ecl, ecl2, hv, n_i8, n_i16, n_0, n_31, n_add, n_sub, n_mul, n_neg, n_div, n_rem, n_le_t, n_le_f, n_lt_t, n_lt_f, n_eq_t, n_eq_f, n_cl, n_gd, n_gdt, n_nz, Int.reduceToNat, Int.reduceAdd, Int.reduceSub, Int.reduceMul, Int.reduceNeg, Int.reduceLT, Int.reduceLE, Int.reduceEq, Int.reduceDiv, Int.reduceMod, Nat.reduceAdd, Nat.reduceMul, ↓reduceIte, ltd]
theorem st_L63 (K : ST → Option ST) (s0 : ST) : ∀ (m F i : Nat) (s : ST), (∀ o k : Nat, ¬ (o = 103 ∧ 4 ≤ k ∧ k < 4 + i) → s.1 o k = s0.1 o k) → (∀ j : Nat, j < i → s.1 103 (4 + j) = s0.1 103 j) → s.2 = s0.2 → i + m = 4 → m < F → ∃ s', f_X10_stands_L63 K F (Int32.ofInt (i : Int)) s = K s' ∧ (∀ o k : Nat, ¬ (o = 103 ∧ 4 ≤ k ∧ k < 8) → s'.1 o k = s0.1 o k) ∧ (∀ j : Nat, j < 4 → s'.1 103 (4 + j) = s0.1 103 j) ∧ s'.2 = s0.2 := by
  intro m
  induction m with
  | zero =>
    intro F i s h1 h2 h3 hi hF
    obtain ⟨F, rfl⟩ : ∃ F', F = F' + 1 := ⟨F - 1, by omega⟩
    have e : i = 4 := by omega
    subst e
    refine ⟨s, ?_, fun o k x => h1 o k (by omega), h2, h3⟩
    simp (disch := omega) only [f_X10_stands_L63, n_i8, n_i16, n_0, n_31, n_add, n_sub, n_mul, n_neg, n_div, n_rem, n_le_t, n_le_f, n_lt_t, n_lt_f, n_eq_t, n_eq_f, n_cl, n_gd, n_gdt, n_nz, Int.reduceToNat, Int.reduceAdd, Int.reduceSub, Int.reduceMul, Int.reduceNeg, Int.reduceLT, Int.reduceLE, Int.reduceEq, Int.reduceDiv, Int.reduceMod, Nat.reduceAdd, Nat.reduceMul, ↓reduceIte]
  | succ m ih =>
    intro F i s h1 h2 h3 hi hF
    obtain ⟨F, rfl⟩ : ∃ F', F = F' + 1 := ⟨F - 1, by omega⟩
    have ecl : (Int32.ofInt (i : Int)).toNatClampNeg = i := by rw [n_cl (by omega) (by omega)]; omega
    have ecl2 : (Int32.ofInt (4 + (i : Int))).toNatClampNeg = 4 + i := by rw [n_cl (by omega) (by omega)]; omega
    have hv : s.1 103 i = s0.1 103 i := h1 103 i (by omega)
    have hfr : ∀ o k : Nat, ¬ (o = 103 ∧ k = 4 + i) → (uI s 103 (4 + i) (s0.1 103 i)).1 o k = s.1 o k := fun o k x => by (simp only [ua, ja, u_2, u_3, j_1, j_3]; (repeat' split) <;> first | rfl | (exfalso; omega))
    obtain ⟨s', q1, q2, q3, q4⟩ := ih F (i + 1) (uI s 103 (4 + i) (s0.1 103 i)) (fun o k x => (hfr o k (by omega)).trans (h1 o k (by omega))) (fun j hj => by
      by_cases e : j = i
      · subst e; rw [u_eq]
      · exact (hfr 103 (4 + j) (by omega)).trans (h2 j (by omega))) h3 (by omega) (by omega)
    refine ⟨s', ?_, q2, q3, q4⟩
    rw [← q1, f_X10_stands_L63, show ((i + 1 : Nat) : Int) = (i : Int) + 1 by omega]
    simp (disch := omega) only [ecl, ecl2, hv, n_i8, n_i16, n_0, n_31, n_add, n_sub, n_mul, n_neg, n_div, n_rem, n_le_t, n_le_f, n_lt_t, n_lt_f, n_eq_t, n_eq_f, n_cl, n_gd, n_gdt, n_nz, Int.reduceToNat, Int.reduceAdd, Int.reduceSub, Int.reduceMul, Int.reduceNeg, Int.reduceLT, Int.reduceLE, Int.reduceEq, Int.reduceDiv, Int.reduceMod, Nat.reduceAdd, Nat.reduceMul, ↓reduceIte, ltd]
theorem st_L90 (K : ST → Option ST) (s0 : ST) : ∀ (m F i : Nat) (s : ST), (∀ o k : Nat, ¬ (o = 104 ∧ 20 ≤ k ∧ k < 20 + i) → s.1 o k = s0.1 o k) → (∀ j : Nat, j < i → s.1 104 (20 + j) = s0.1 104 j) → s.2 = s0.2 → i + m = 20 → m < F → ∃ s', f_X10_stands_L90 K F (Int32.ofInt (i : Int)) s = K s' ∧ (∀ o k : Nat, ¬ (o = 104 ∧ 20 ≤ k ∧ k < 40) → s'.1 o k = s0.1 o k) ∧ (∀ j : Nat, j < 20 → s'.1 104 (20 + j) = s0.1 104 j) ∧ s'.2 = s0.2 := by
  intro m
  induction m with
  | zero =>
    intro F i s h1 h2 h3 hi hF
    obtain ⟨F, rfl⟩ : ∃ F', F = F' + 1 := ⟨F - 1, by omega⟩
    have e : i = 20 := by omega
    subst e
    refine ⟨s, ?_, fun o k x => h1 o k (by omega), h2, h3⟩
    simp (disch := omega) only [f_X10_stands_L90, n_i8, n_i16, n_0, n_31, n_add, n_sub, n_mul, n_neg, n_div, n_rem, n_le_t, n_le_f, n_lt_t, n_lt_f, n_eq_t, n_eq_f, n_cl, n_gd, n_gdt, n_nz, Int.reduceToNat, Int.reduceAdd, Int.reduceSub, Int.reduceMul, Int.reduceNeg, Int.reduceLT, Int.reduceLE, Int.reduceEq, Int.reduceDiv, Int.reduceMod, Nat.reduceAdd, Nat.reduceMul, ↓reduceIte]
  | succ m ih =>
    intro F i s h1 h2 h3 hi hF
    obtain ⟨F, rfl⟩ : ∃ F', F = F' + 1 := ⟨F - 1, by omega⟩
    have ecl : (Int32.ofInt (i : Int)).toNatClampNeg = i := by rw [n_cl (by omega) (by omega)]; omega
    have ecl2 : (Int32.ofInt (20 + (i : Int))).toNatClampNeg = 20 + i := by rw [n_cl (by omega) (by omega)]; omega
    have hv : s.1 104 i = s0.1 104 i := h1 104 i (by omega)
    have hfr : ∀ o k : Nat, ¬ (o = 104 ∧ k = 20 + i) → (uI s 104 (20 + i) (s0.1 104 i)).1 o k = s.1 o k := fun o k x => by (simp only [ua, ja, u_2, u_3, j_1, j_3]; (repeat' split) <;> first | rfl | (exfalso; omega))
    obtain ⟨s', q1, q2, q3, q4⟩ := ih F (i + 1) (uI s 104 (20 + i) (s0.1 104 i)) (fun o k x => (hfr o k (by omega)).trans (h1 o k (by omega))) (fun j hj => by
      by_cases e : j = i
      · subst e; rw [u_eq]
      · exact (hfr 104 (20 + j) (by omega)).trans (h2 j (by omega))) h3 (by omega) (by omega)
    refine ⟨s', ?_, q2, q3, q4⟩
    rw [← q1, f_X10_stands_L90, show ((i + 1 : Nat) : Int) = (i : Int) + 1 by omega]
    simp (disch := omega) only [ecl, ecl2, hv, n_i8, n_i16, n_0, n_31, n_add, n_sub, n_mul, n_neg, n_div, n_rem, n_le_t, n_le_f, n_lt_t, n_lt_f, n_eq_t, n_eq_f, n_cl, n_gd, n_gdt, n_nz, Int.reduceToNat, Int.reduceAdd, Int.reduceSub, Int.reduceMul, Int.reduceNeg, Int.reduceLT, Int.reduceLE, Int.reduceEq, Int.reduceDiv, Int.reduceMod, Nat.reduceAdd, Nat.reduceMul, ↓reduceIte, ltd]
theorem st_L119 (K : ST → Option ST) (s0 : ST) : ∀ (m F i : Nat) (s : ST), (∀ o k : Nat, ¬ (o = 105 ∧ 16 ≤ k ∧ k < 16 + i) → s.1 o k = s0.1 o k) → (∀ j : Nat, j < i → s.1 105 (16 + j) = s0.1 105 j) → s.2 = s0.2 → i + m = 16 → m < F → ∃ s', f_X10_stands_L119 K F (Int32.ofInt (i : Int)) s = K s' ∧ (∀ o k : Nat, ¬ (o = 105 ∧ 16 ≤ k ∧ k < 32) → s'.1 o k = s0.1 o k) ∧ (∀ j : Nat, j < 16 → s'.1 105 (16 + j) = s0.1 105 j) ∧ s'.2 = s0.2 := by
  intro m
  induction m with
  | zero =>
    intro F i s h1 h2 h3 hi hF
    obtain ⟨F, rfl⟩ : ∃ F', F = F' + 1 := ⟨F - 1, by omega⟩
    have e : i = 16 := by omega
    subst e
    refine ⟨s, ?_, fun o k x => h1 o k (by omega), h2, h3⟩
    simp (disch := omega) only [f_X10_stands_L119, n_i8, n_i16, n_0, n_31, n_add, n_sub, n_mul, n_neg, n_div, n_rem, n_le_t, n_le_f, n_lt_t, n_lt_f, n_eq_t, n_eq_f, n_cl, n_gd, n_gdt, n_nz, Int.reduceToNat, Int.reduceAdd, Int.reduceSub, Int.reduceMul, Int.reduceNeg, Int.reduceLT, Int.reduceLE, Int.reduceEq, Int.reduceDiv, Int.reduceMod, Nat.reduceAdd, Nat.reduceMul, ↓reduceIte]
  | succ m ih =>
    intro F i s h1 h2 h3 hi hF
    obtain ⟨F, rfl⟩ : ∃ F', F = F' + 1 := ⟨F - 1, by omega⟩
    have ecl : (Int32.ofInt (i : Int)).toNatClampNeg = i := by rw [n_cl (by omega) (by omega)]; omega
    have ecl2 : (Int32.ofInt (16 + (i : Int))).toNatClampNeg = 16 + i := by rw [n_cl (by omega) (by omega)]; omega
    have hv : s.1 105 i = s0.1 105 i := h1 105 i (by omega)
    have hfr : ∀ o k : Nat, ¬ (o = 105 ∧ k = 16 + i) → (uI s 105 (16 + i) (s0.1 105 i)).1 o k = s.1 o k := fun o k x => by (simp only [ua, ja, u_2, u_3, j_1, j_3]; (repeat' split) <;> first | rfl | (exfalso; omega))
    obtain ⟨s', q1, q2, q3, q4⟩ := ih F (i + 1) (uI s 105 (16 + i) (s0.1 105 i)) (fun o k x => (hfr o k (by omega)).trans (h1 o k (by omega))) (fun j hj => by
      by_cases e : j = i
      · subst e; rw [u_eq]
      · exact (hfr 105 (16 + j) (by omega)).trans (h2 j (by omega))) h3 (by omega) (by omega)
    refine ⟨s', ?_, q2, q3, q4⟩
    rw [← q1, f_X10_stands_L119, show ((i + 1 : Nat) : Int) = (i : Int) + 1 by omega]
    simp (disch := omega) only [ecl, ecl2, hv, n_i8, n_i16, n_0, n_31, n_add, n_sub, n_mul, n_neg, n_div, n_rem, n_le_t, n_le_f, n_lt_t, n_lt_f, n_eq_t, n_eq_f, n_cl, n_gd, n_gdt, n_nz, Int.reduceToNat, Int.reduceAdd, Int.reduceSub, Int.reduceMul, Int.reduceNeg, Int.reduceLT, Int.reduceLE, Int.reduceEq, Int.reduceDiv, Int.reduceMod, Nat.reduceAdd, Nat.reduceMul, ↓reduceIte, ltd]
theorem st_L148 (K : ST → Option ST) (s0 : ST) : ∀ (m F i : Nat) (s : ST), (∀ o k : Nat, ¬ (o = 107 ∧ 18 ≤ k ∧ k < 18 + i) → s.1 o k = s0.1 o k) → (∀ j : Nat, j < i → s.1 107 (18 + j) = s0.1 107 j) → s.2 = s0.2 → i + m = 18 → m < F → ∃ s', f_X10_stands_L148 K F (Int32.ofInt (i : Int)) s = K s' ∧ (∀ o k : Nat, ¬ (o = 107 ∧ 18 ≤ k ∧ k < 36) → s'.1 o k = s0.1 o k) ∧ (∀ j : Nat, j < 18 → s'.1 107 (18 + j) = s0.1 107 j) ∧ s'.2 = s0.2 := by
  intro m
  induction m with
  | zero =>
    intro F i s h1 h2 h3 hi hF
    obtain ⟨F, rfl⟩ : ∃ F', F = F' + 1 := ⟨F - 1, by omega⟩
    have e : i = 18 := by omega
    subst e
    refine ⟨s, ?_, fun o k x => h1 o k (by omega), h2, h3⟩
    simp (disch := omega) only [f_X10_stands_L148, n_i8, n_i16, n_0, n_31, n_add, n_sub, n_mul, n_neg, n_div, n_rem, n_le_t, n_le_f, n_lt_t, n_lt_f, n_eq_t, n_eq_f, n_cl, n_gd, n_gdt, n_nz, Int.reduceToNat, Int.reduceAdd, Int.reduceSub, Int.reduceMul, Int.reduceNeg, Int.reduceLT, Int.reduceLE, Int.reduceEq, Int.reduceDiv, Int.reduceMod, Nat.reduceAdd, Nat.reduceMul, ↓reduceIte]
  | succ m ih =>
    intro F i s h1 h2 h3 hi hF
    obtain ⟨F, rfl⟩ : ∃ F', F = F' + 1 := ⟨F - 1, by omega⟩
    have ecl : (Int32.ofInt (i : Int)).toNatClampNeg = i := by rw [n_cl (by omega) (by omega)]; omega
    have ecl2 : (Int32.ofInt (18 + (i : Int))).toNatClampNeg = 18 + i := by rw [n_cl (by omega) (by omega)]; omega
    have hv : s.1 107 i = s0.1 107 i := h1 107 i (by omega)
    have hfr : ∀ o k : Nat, ¬ (o = 107 ∧ k = 18 + i) → (uI s 107 (18 + i) (s0.1 107 i)).1 o k = s.1 o k := fun o k x => by (simp only [ua, ja, u_2, u_3, j_1, j_3]; (repeat' split) <;> first | rfl | (exfalso; omega))
    obtain ⟨s', q1, q2, q3, q4⟩ := ih F (i + 1) (uI s 107 (18 + i) (s0.1 107 i)) (fun o k x => (hfr o k (by omega)).trans (h1 o k (by omega))) (fun j hj => by
      by_cases e : j = i
      · subst e; rw [u_eq]
      · exact (hfr 107 (18 + j) (by omega)).trans (h2 j (by omega))) h3 (by omega) (by omega)
    refine ⟨s', ?_, q2, q3, q4⟩
    rw [← q1, f_X10_stands_L148, show ((i + 1 : Nat) : Int) = (i : Int) + 1 by omega]
    simp (disch := omega) only [ecl, ecl2, hv, n_i8, n_i16, n_0, n_31, n_add, n_sub, n_mul, n_neg, n_div, n_rem, n_le_t, n_le_f, n_lt_t, n_lt_f, n_eq_t, n_eq_f, n_cl, n_gd, n_gdt, n_nz, Int.reduceToNat, Int.reduceAdd, Int.reduceSub, Int.reduceMul, Int.reduceNeg, Int.reduceLT, Int.reduceLE, Int.reduceEq, Int.reduceDiv, Int.reduceMod, Nat.reduceAdd, Nat.reduceMul, ↓reduceIte, ltd]
theorem st_L177 (K : ST → Option ST) (s0 : ST) : ∀ (m F i : Nat) (s : ST), (∀ o k : Nat, ¬ (o = 108 ∧ 2 ≤ k ∧ k < 2 + i) → s.1 o k = s0.1 o k) → (∀ j : Nat, j < i → s.1 108 (2 + j) = s0.1 108 j) → s.2 = s0.2 → i + m = 2 → m < F → ∃ s', f_X10_stands_L177 K F (Int32.ofInt (i : Int)) s = K s' ∧ (∀ o k : Nat, ¬ (o = 108 ∧ 2 ≤ k ∧ k < 4) → s'.1 o k = s0.1 o k) ∧ (∀ j : Nat, j < 2 → s'.1 108 (2 + j) = s0.1 108 j) ∧ s'.2 = s0.2 := by
  intro m
  induction m with
  | zero =>
    intro F i s h1 h2 h3 hi hF
    obtain ⟨F, rfl⟩ : ∃ F', F = F' + 1 := ⟨F - 1, by omega⟩
    have e : i = 2 := by omega
    subst e
    refine ⟨s, ?_, fun o k x => h1 o k (by omega), h2, h3⟩
    simp (disch := omega) only [f_X10_stands_L177, n_i8, n_i16, n_0, n_31, n_add, n_sub, n_mul, n_neg, n_div, n_rem, n_le_t, n_le_f, n_lt_t, n_lt_f, n_eq_t, n_eq_f, n_cl, n_gd, n_gdt, n_nz, Int.reduceToNat, Int.reduceAdd, Int.reduceSub, Int.reduceMul, Int.reduceNeg, Int.reduceLT, Int.reduceLE, Int.reduceEq, Int.reduceDiv, Int.reduceMod, Nat.reduceAdd, Nat.reduceMul, ↓reduceIte]
  | succ m ih =>
    intro F i s h1 h2 h3 hi hF
    obtain ⟨F, rfl⟩ : ∃ F', F = F' + 1 := ⟨F - 1, by omega⟩
    have ecl : (Int32.ofInt (i : Int)).toNatClampNeg = i := by rw [n_cl (by omega) (by omega)]; omega
    have ecl2 : (Int32.ofInt (2 + (i : Int))).toNatClampNeg = 2 + i := by rw [n_cl (by omega) (by omega)]; omega
    have hv : s.1 108 i = s0.1 108 i := h1 108 i (by omega)
    have hfr : ∀ o k : Nat, ¬ (o = 108 ∧ k = 2 + i) → (uI s 108 (2 + i) (s0.1 108 i)).1 o k = s.1 o k := fun o k x => by (simp only [ua, ja, u_2, u_3, j_1, j_3]; (repeat' split) <;> first | rfl | (exfalso; omega))
    obtain ⟨s', q1, q2, q3, q4⟩ := ih F (i + 1) (uI s 108 (2 + i) (s0.1 108 i)) (fun o k x => (hfr o k (by omega)).trans (h1 o k (by omega))) (fun j hj => by
      by_cases e : j = i
      · subst e; rw [u_eq]
      · exact (hfr 108 (2 + j) (by omega)).trans (h2 j (by omega))) h3 (by omega) (by omega)
    refine ⟨s', ?_, q2, q3, q4⟩
    rw [← q1, f_X10_stands_L177, show ((i + 1 : Nat) : Int) = (i : Int) + 1 by omega]
    simp (disch := omega) only [ecl, ecl2, hv, n_i8, n_i16, n_0, n_31, n_add, n_sub, n_mul, n_neg, n_div, n_rem, n_le_t, n_le_f, n_lt_t, n_lt_f, n_eq_t, n_eq_f, n_cl, n_gd, n_gdt, n_nz, Int.reduceToNat, Int.reduceAdd, Int.reduceSub, Int.reduceMul, Int.reduceNeg, Int.reduceLT, Int.reduceLE, Int.reduceEq, Int.reduceDiv, Int.reduceMod, Nat.reduceAdd, Nat.reduceMul, ↓reduceIte, ltd]
theorem st_L34 (K : ST → Option ST) (s0 : ST) : ∀ (m F i : Nat) (s : ST), (∀ o k : Nat, ¬ (o = 102 ∧ 24 ≤ k ∧ k < 24 + i) → s.2.1 o k = s0.2.1 o k) → (∀ j : Nat, j < i → s.2.1 102 (24 + j) = s0.2.1 102 j) → s.1 = s0.1 → s.2.2 = s0.2.2 → i + m = 24 → m < F → ∃ s', f_X10_stands_L34 K F (Int32.ofInt (i : Int)) s = K s' ∧ (∀ o k : Nat, ¬ (o = 102 ∧ 24 ≤ k ∧ k < 48) → s'.2.1 o k = s0.2.1 o k) ∧ (∀ j : Nat, j < 24 → s'.2.1 102 (24 + j) = s0.2.1 102 j) ∧ s'.1 = s0.1 ∧ s'.2.2 = s0.2.2 := by
  intro m
  induction m with
  | zero =>
    intro F i s h1 h2 h3 h4 hi hF
    obtain ⟨F, rfl⟩ : ∃ F', F = F' + 1 := ⟨F - 1, by omega⟩
    have e : i = 24 := by omega
    subst e
    refine ⟨s, ?_, fun o k x => h1 o k (by omega), h2, h3, h4⟩
    simp (disch := omega) only [f_X10_stands_L34, n_i8, n_i16, n_0, n_31, n_add, n_sub, n_mul, n_neg, n_div, n_rem, n_le_t, n_le_f, n_lt_t, n_lt_f, n_eq_t, n_eq_f, n_cl, n_gd, n_gdt, n_nz, Int.reduceToNat, Int.reduceAdd, Int.reduceSub, Int.reduceMul, Int.reduceNeg, Int.reduceLT, Int.reduceLE, Int.reduceEq, Int.reduceDiv, Int.reduceMod, Nat.reduceAdd, Nat.reduceMul, ↓reduceIte]
  | succ m ih =>
    intro F i s h1 h2 h3 h4 hi hF
    obtain ⟨F, rfl⟩ : ∃ F', F = F' + 1 := ⟨F - 1, by omega⟩
    have ecl : (Int32.ofInt (i : Int)).toNatClampNeg = i := by rw [n_cl (by omega) (by omega)]; omega
    have ecl2 : (Int32.ofInt (24 + (i : Int))).toNatClampNeg = 24 + i := by rw [n_cl (by omega) (by omega)]; omega
    have hv : s.2.1 102 i = s0.2.1 102 i := h1 102 i (by omega)
    have hfr : ∀ o k : Nat, ¬ (o = 102 ∧ k = 24 + i) → (uJ s 102 (24 + i) (s0.2.1 102 i)).2.1 o k = s.2.1 o k := fun o k x => by
      by_cases e : o = 102
      · exact j_nk (by omega)
      · exact j_no e
    obtain ⟨s', q1, q2, q3, q4, q5⟩ := ih F (i + 1) (uJ s 102 (24 + i) (s0.2.1 102 i)) (fun o k x => (hfr o k (by omega)).trans (h1 o k (by omega))) (fun j hj => by
      by_cases e : j = i
      · subst e; rw [j_eq]
      · exact (hfr 102 (24 + j) (by omega)).trans (h2 j (by omega))) h3 h4 (by omega) (by omega)
    refine ⟨s', ?_, q2, q3, q4, q5⟩
    rw [← q1, f_X10_stands_L34, show ((i + 1 : Nat) : Int) = (i : Int) + 1 by omega]
    simp (disch := omega) only [ecl, ecl2, hv, n_i8, n_i16, n_0, n_31, n_add, n_sub, n_mul, n_neg, n_div, n_rem, n_le_t, n_le_f, n_lt_t, n_lt_f, n_eq_t, n_eq_f, n_cl, n_gd, n_gdt, n_nz, Int.reduceToNat, Int.reduceAdd, Int.reduceSub, Int.reduceMul, Int.reduceNeg, Int.reduceLT, Int.reduceLE, Int.reduceEq, Int.reduceDiv, Int.reduceMod, Nat.reduceAdd, Nat.reduceMul, ↓reduceIte, ltd]
theorem st_L228 (K : ST → Option ST) (s0 : ST) {C : Nat} (hC : C ≤ 1600) (h56 : s0.1 65 56 = Int32.ofInt (C : Int)) : ∀ (m F i : Nat) (s : ST), (∀ o k : Nat, ¬ (o = 111 ∧ 1600 ≤ k) → s.1 o k = s0.1 o k) → (∀ j : Nat, j < i → s.1 111 (1600 + j) = s0.1 111 j) → s.2 = s0.2 → i + m = C → m < F → ∃ s', f_X10_stands_L228 K F (Int32.ofInt (i : Int)) s = K s' ∧ (∀ o k : Nat, ¬ (o = 111 ∧ 1600 ≤ k) → s'.1 o k = s0.1 o k) ∧ (∀ j : Nat, j < C → s'.1 111 (1600 + j) = s0.1 111 j) ∧ s'.2 = s0.2 := by
  intro m
  induction m with
  | zero =>
    intro F i s h1 h2 h3 hi hF
    obtain ⟨F, rfl⟩ : ∃ F', F = F' + 1 := ⟨F - 1, by omega⟩
    have e : i = C := by omega
    subst e
    have hn := (h1 65 56 (by omega)).trans h56
    refine ⟨s, ?_, h1, h2, h3⟩
    simp (disch := omega) only [f_X10_stands_L228, hn, n_i8, n_i16, n_0, n_31, n_add, n_sub, n_mul, n_neg, n_div, n_rem, n_le_t, n_le_f, n_lt_t, n_lt_f, n_eq_t, n_eq_f, n_cl, n_gd, n_gdt, n_nz, Int.reduceToNat, Int.reduceAdd, Int.reduceSub, Int.reduceMul, Int.reduceNeg, Int.reduceLT, Int.reduceLE, Int.reduceEq, Int.reduceDiv, Int.reduceMod, Nat.reduceAdd, Nat.reduceMul, ↓reduceIte]
  | succ m ih =>
    intro F i s h1 h2 h3 hi hF
    obtain ⟨F, rfl⟩ : ∃ F', F = F' + 1 := ⟨F - 1, by omega⟩
    have hn := (h1 65 56 (by omega)).trans h56
    have ecl : (Int32.ofInt (i : Int)).toNatClampNeg = i := by rw [n_cl (by omega) (by omega)]; omega
    have ecl2 : (Int32.ofInt (1600 + (i : Int))).toNatClampNeg = 1600 + i := by rw [n_cl (by omega) (by omega)]; omega
    have hv : s.1 111 i = s0.1 111 i := h1 111 i (by omega)
    have hfr : ∀ o k : Nat, ¬ (o = 111 ∧ k = 1600 + i) → (uI s 111 (1600 + i) (s0.1 111 i)).1 o k = s.1 o k := fun o k x => by (simp only [ua, ja, u_2, u_3, j_1, j_3]; (repeat' split) <;> first | rfl | (exfalso; omega))
    obtain ⟨s', q1, q2, q3, q4⟩ := ih F (i + 1) (uI s 111 (1600 + i) (s0.1 111 i)) (fun o k x => (hfr o k (by omega)).trans (h1 o k (by omega))) (fun j hj => by
      by_cases e : j = i
      · subst e; rw [u_eq]
      · exact (hfr 111 (1600 + j) (by omega)).trans (h2 j (by omega))) h3 (by omega) (by omega)
    refine ⟨s', ?_, q2, q3, q4⟩
    rw [← q1, f_X10_stands_L228, show ((i + 1 : Nat) : Int) = (i : Int) + 1 by omega]
    have egd : ∀ {α : Type} {y : Option α}, gd (ib (Int32.ofInt (i : Int)) 3200) y = y := by intro α y; exact n_gd (by omega) (by omega) (by omega)
    have egd2 : ∀ {α : Type} {y : Option α}, gd (ib (Int32.ofInt (1600 + (i : Int))) 3200) y = y := by intro α y; exact n_gd (by omega) (by omega) (by omega)
    simp (disch := omega) only [hn, ecl, ecl2, egd, egd2, hv, n_i8, n_i16, n_0, n_31, n_add, n_sub, n_mul, n_neg, n_div, n_rem, n_le_t, n_le_f, n_lt_t, n_lt_f, n_eq_t, n_eq_f, n_cl, n_gd, n_gdt, n_nz, Int.reduceToNat, Int.reduceAdd, Int.reduceSub, Int.reduceMul, Int.reduceNeg, Int.reduceLT, Int.reduceLE, Int.reduceEq, Int.reduceDiv, Int.reduceMod, Nat.reduceAdd, Nat.reduceMul, ↓reduceIte, ltd]
theorem st_L260 (K : ST → Option ST) (s0 : ST) : ∀ (m F i : Nat) (s : ST), (∀ o k : Nat, ¬ (o = 112 ∧ k < i) → s.1 o k = s0.1 o k) → (∀ j : Nat, j < i → s.1 112 j = Int32.ofInt 0) → s.2 = s0.2 → i + m = 225 → m < F → ∃ s', f_X10_stands_L260 K F (Int32.ofInt (i : Int)) s = K s' ∧ (∀ o k : Nat, ¬ (o = 112 ∧ k < 225) → s'.1 o k = s0.1 o k) ∧ (∀ j : Nat, j < 225 → s'.1 112 j = Int32.ofInt 0) ∧ s'.2 = s0.2 := by
  intro m
  induction m with
  | zero =>
    intro F i s h1 h2 h3 hi hF
    obtain ⟨F, rfl⟩ : ∃ F', F = F' + 1 := ⟨F - 1, by omega⟩
    have e : i = 225 := by omega
    subst e
    refine ⟨s, ?_, fun o k x => h1 o k (by omega), h2, h3⟩
    simp (disch := omega) only [f_X10_stands_L260, n_i8, n_i16, n_0, n_31, n_add, n_sub, n_mul, n_neg, n_div, n_rem, n_le_t, n_le_f, n_lt_t, n_lt_f, n_eq_t, n_eq_f, n_cl, n_gd, n_gdt, n_nz, Int.reduceToNat, Int.reduceAdd, Int.reduceSub, Int.reduceMul, Int.reduceNeg, Int.reduceLT, Int.reduceLE, Int.reduceEq, Int.reduceDiv, Int.reduceMod, Nat.reduceAdd, Nat.reduceMul, ↓reduceIte]
  | succ m ih =>
    intro F i s h1 h2 h3 hi hF
    obtain ⟨F, rfl⟩ : ∃ F', F = F' + 1 := ⟨F - 1, by omega⟩
    have ecl : (Int32.ofInt (i : Int)).toNatClampNeg = i := by rw [n_cl (by omega) (by omega)]; omega
    have hfr : ∀ o k : Nat, ¬ (o = 112 ∧ k = i) → (uI s 112 i (Int32.ofInt 0)).1 o k = s.1 o k := fun o k x => by (simp only [ua, ja, u_2, u_3, j_1, j_3]; (repeat' split) <;> first | rfl | (exfalso; omega))
    obtain ⟨s', q1, q2, q3, q4⟩ := ih F (i + 1) (uI s 112 i (Int32.ofInt 0)) (fun o k x => (hfr o k (by omega)).trans (h1 o k (by omega))) (fun j hj => by
      by_cases e : j = i
      · subst e; rw [u_eq]
      · exact (hfr 112 j (by omega)).trans (h2 j (by omega))) h3 (by omega) (by omega)
    refine ⟨s', ?_, q2, q3, q4⟩
    rw [← q1, f_X10_stands_L260, show ((i + 1 : Nat) : Int) = (i : Int) + 1 by omega]
    simp (disch := omega) only [ecl, n_i8, n_i16, n_0, n_31, n_add, n_sub, n_mul, n_neg, n_div, n_rem, n_le_t, n_le_f, n_lt_t, n_lt_f, n_eq_t, n_eq_f, n_cl, n_gd, n_gdt, n_nz, Int.reduceToNat, Int.reduceAdd, Int.reduceSub, Int.reduceMul, Int.reduceNeg, Int.reduceLT, Int.reduceLE, Int.reduceEq, Int.reduceDiv, Int.reduceMod, Nat.reduceAdd, Nat.reduceMul, ↓reduceIte, ltd]
theorem st_L282 (K : ST → Option ST) (s0 : ST) {C : Nat} (hC : C ≤ 8) (h1m : s0.1 101 1 = Int32.ofInt (C : Int)) : ∀ (m F i : Nat) (s : ST), (∀ o k : Nat, ¬ (o = 112 ∧ 2 ≤ k ∧ k < 18) → s.1 o k = s0.1 o k) → (∀ j : Nat, j < i → s.1 112 (2 + j) = s0.1 106 j) → s.2 = s0.2 → i + m = 2 * C → m < F → ∃ s', f_X10_stands_L282 K F (Int32.ofInt (i : Int)) s = K s' ∧ (∀ o k : Nat, ¬ (o = 112 ∧ 2 ≤ k ∧ k < 18) → s'.1 o k = s0.1 o k) ∧ (∀ j : Nat, j < 2 * C → s'.1 112 (2 + j) = s0.1 106 j) ∧ s'.2 = s0.2 := by
  have e1 : (Int32.ofInt 1).toNatClampNeg = 1 := rfl
  intro m
  induction m with
  | zero =>
    intro F i s h1 h2 h3 hi hF
    obtain ⟨F, rfl⟩ : ∃ F', F = F' + 1 := ⟨F - 1, by omega⟩
    have e : i = 2 * C := by omega
    subst e
    have hn := (h1 101 1 (by omega)).trans h1m
    refine ⟨s, ?_, h1, h2, h3⟩
    simp (disch := omega) only [f_X10_stands_L282, e1, hn, n_i8, n_i16, n_0, n_31, n_add, n_sub, n_mul, n_neg, n_div, n_rem, n_le_t, n_le_f, n_lt_t, n_lt_f, n_eq_t, n_eq_f, n_cl, n_gd, n_gdt, n_nz, Int.reduceToNat, Int.reduceAdd, Int.reduceSub, Int.reduceMul, Int.reduceNeg, Int.reduceLT, Int.reduceLE, Int.reduceEq, Int.reduceDiv, Int.reduceMod, Nat.reduceAdd, Nat.reduceMul, ↓reduceIte]
  | succ m ih =>
    intro F i s h1 h2 h3 hi hF
    obtain ⟨F, rfl⟩ : ∃ F', F = F' + 1 := ⟨F - 1, by omega⟩
    have hn := (h1 101 1 (by omega)).trans h1m
    have ecl : (Int32.ofInt (i : Int)).toNatClampNeg = i := by rw [n_cl (by omega) (by omega)]; omega
    have ecl2 : (Int32.ofInt (2 + (i : Int))).toNatClampNeg = 2 + i := by rw [n_cl (by omega) (by omega)]; omega
    have hv : s.1 106 i = s0.1 106 i := h1 106 i (by omega)
    have hfr : ∀ o k : Nat, ¬ (o = 112 ∧ k = 2 + i) → (uI s 112 (2 + i) (s0.1 106 i)).1 o k = s.1 o k := fun o k x => by (simp only [ua, ja, u_2, u_3, j_1, j_3]; (repeat' split) <;> first | rfl | (exfalso; omega))
    obtain ⟨s', q1, q2, q3, q4⟩ := ih F (i + 1) (uI s 112 (2 + i) (s0.1 106 i)) (fun o k x => (hfr o k (by omega)).trans (h1 o k (by omega))) (fun j hj => by
      by_cases e : j = i
      · subst e; rw [u_eq]
      · exact (hfr 112 (2 + j) (by omega)).trans (h2 j (by omega))) h3 (by omega) (by omega)
    refine ⟨s', ?_, q2, q3, q4⟩
    rw [← q1, f_X10_stands_L282, show ((i + 1 : Nat) : Int) = (i : Int) + 1 by omega]
    simp (disch := omega) only [e1, hn, ecl, ecl2, hv, n_i8, n_i16, n_0, n_31, n_add, n_sub, n_mul, n_neg, n_div, n_rem, n_le_t, n_le_f, n_lt_t, n_lt_f, n_eq_t, n_eq_f, n_cl, n_gd, n_gdt, n_nz, Int.reduceToNat, Int.reduceAdd, Int.reduceSub, Int.reduceMul, Int.reduceNeg, Int.reduceLT, Int.reduceLE, Int.reduceEq, Int.reduceDiv, Int.reduceMod, Nat.reduceAdd, Nat.reduceMul, ↓reduceIte, ltd]
theorem st_L316 (K : ST → Option ST) (s0 : ST) {C : Nat} (hC : C ≤ 6) (h1m : s0.1 101 2 = Int32.ofInt (C : Int)) : ∀ (m F i : Nat) (s : ST), (∀ o k : Nat, ¬ (o = 112 ∧ 18 ≤ k ∧ k < 24) → s.1 o k = s0.1 o k) → (∀ j : Nat, j < i → s.1 112 (18 + j) = s0.1 107 (3 * j + 2)) → s.2 = s0.2 → i + m = C → m < F → ∃ s', f_X10_stands_L316 K F (Int32.ofInt (i : Int)) s = K s' ∧ (∀ o k : Nat, ¬ (o = 112 ∧ 18 ≤ k ∧ k < 24) → s'.1 o k = s0.1 o k) ∧ (∀ j : Nat, j < C → s'.1 112 (18 + j) = s0.1 107 (3 * j + 2)) ∧ s'.2 = s0.2 := by
  have e1 : (Int32.ofInt 2).toNatClampNeg = 2 := rfl
  intro m
  induction m with
  | zero =>
    intro F i s h1 h2 h3 hi hF
    obtain ⟨F, rfl⟩ : ∃ F', F = F' + 1 := ⟨F - 1, by omega⟩
    have e : i = C := by omega
    subst e
    have hn := (h1 101 2 (by omega)).trans h1m
    refine ⟨s, ?_, h1, h2, h3⟩
    simp (disch := omega) only [f_X10_stands_L316, e1, hn, n_i8, n_i16, n_0, n_31, n_add, n_sub, n_mul, n_neg, n_div, n_rem, n_le_t, n_le_f, n_lt_t, n_lt_f, n_eq_t, n_eq_f, n_cl, n_gd, n_gdt, n_nz, Int.reduceToNat, Int.reduceAdd, Int.reduceSub, Int.reduceMul, Int.reduceNeg, Int.reduceLT, Int.reduceLE, Int.reduceEq, Int.reduceDiv, Int.reduceMod, Nat.reduceAdd, Nat.reduceMul, ↓reduceIte]
  | succ m ih =>
    intro F i s h1 h2 h3 hi hF
    obtain ⟨F, rfl⟩ : ∃ F', F = F' + 1 := ⟨F - 1, by omega⟩
    have hn := (h1 101 2 (by omega)).trans h1m
    have ecl : (Int32.ofInt (3 * (i : Int) + 2)).toNatClampNeg = 3 * i + 2 := by rw [n_cl (by omega) (by omega)]; omega
    have ecl2 : (Int32.ofInt (18 + (i : Int))).toNatClampNeg = 18 + i := by rw [n_cl (by omega) (by omega)]; omega
    have hv : s.1 107 (3 * i + 2) = s0.1 107 (3 * i + 2) := h1 107 (3 * i + 2) (by omega)
    have hfr : ∀ o k : Nat, ¬ (o = 112 ∧ k = 18 + i) → (uI s 112 (18 + i) (s0.1 107 (3 * i + 2))).1 o k = s.1 o k := fun o k x => by (simp only [ua, ja, u_2, u_3, j_1, j_3]; (repeat' split) <;> first | rfl | (exfalso; omega))
    obtain ⟨s', q1, q2, q3, q4⟩ := ih F (i + 1) (uI s 112 (18 + i) (s0.1 107 (3 * i + 2))) (fun o k x => (hfr o k (by omega)).trans (h1 o k (by omega))) (fun j hj => by
      by_cases e : j = i
      · subst e; rw [u_eq]
      · exact (hfr 112 (18 + j) (by omega)).trans (h2 j (by omega))) h3 (by omega) (by omega)
    refine ⟨s', ?_, q2, q3, q4⟩
    rw [← q1, f_X10_stands_L316, show ((i + 1 : Nat) : Int) = (i : Int) + 1 by omega]
    simp (disch := omega) only [e1, hn, ecl, ecl2, hv, n_i8, n_i16, n_0, n_31, n_add, n_sub, n_mul, n_neg, n_div, n_rem, n_le_t, n_le_f, n_lt_t, n_lt_f, n_eq_t, n_eq_f, n_cl, n_gd, n_gdt, n_nz, Int.reduceToNat, Int.reduceAdd, Int.reduceSub, Int.reduceMul, Int.reduceNeg, Int.reduceLT, Int.reduceLE, Int.reduceEq, Int.reduceDiv, Int.reduceMod, Nat.reduceAdd, Nat.reduceMul, ↓reduceIte, ltd]
def STf (s s' : ST) : Prop := (∀ o k : Nat, ¬ (101 ≤ o ∧ o ≤ 112) → ¬ (o = 65 ∧ (k = 58 ∨ k = 80 ∨ k = 84)) → s'.1 o k = s.1 o k) ∧ (∀ o k : Nat, ¬ o = 102 → s'.2.1 o k = s.2.1 o k) ∧ s'.2.2 = s.2.2
theorem DV_A {B : Brd} {G : Gam} {N : Int → Int → List Int} (h : DV B G N) : Bv B ∧ Gv B G ∧ Hv B ∧ Bd B := by
  obtain ⟨⟨a1, a2, a3, a4⟩, ⟨b1, b2, b3, b4⟩, ⟨c1, c2, c3, c4, c5⟩, d⟩ := h
  refine ⟨⟨⟨by omega, fun _ => ⟨by omega, by omega⟩, fun x => by omega⟩, b1, b2, b3, Or.inl a3, a4⟩, ⟨by rw [c4, c5]; omega, fun m m0 m1 => Or.inr (c1 m m0 m1), c2, c3⟩, b4, a3⟩
theorem m_stands {B : Brd} {G : Gam} {N : Int → Int → List Int} {s : ST} (hV : DV B G N) (hD : RD B G N s) : ∃ s', f_X10_stands s = some s' ∧ (MB B s' ∧ MG B G s' ∧ MH B s' ∧ NR B N s') ∧ (s'.1 65 58 = Int32.ofInt 1 ∧ s'.1 65 84 = Int32.ofInt 0 ∧ s'.1 65 80 = Int32.ofInt 0 ∧ ∀ k : Nat, 24 ≤ k → k < 225 → s'.1 112 k = Int32.ofInt 0) ∧ STf s s' := by
  have hVb := hV.1.2.1
  have hD' := hD
  obtain ⟨⟨⟨a1, a2, a3⟩, ⟨a4, a5, a6, a7⟩, a8, a9⟩, b1, b2, b3, b4, b5⟩ := hD'
  have hf0 : ∀ o k : Nat, ¬ (o = 65 ∧ k = 58) → (uI s 65 58 (Int32.ofInt 1)).1 o k = s.1 o k := fun o k x => by (simp only [ua, ja, u_2, u_3, j_1, j_3]; (repeat' split) <;> first | rfl | (exfalso; omega))
  have z0 : (Int32.ofInt 0) = Int32.ofInt ((0 : Nat) : Int) := rfl
  have fl : ∀ m : Nat, m ≤ 2000 → m < fuel := fun m hm => by unfold fuel; omega
  obtain ⟨s1, p1, p2, p3, p4⟩ := st_L7 f_X10_stands_j32 (uI s 65 58 (Int32.ofInt 1)) 3 fuel 0 (uI s 65 58 (Int32.ofInt 1)) (fun _ _ _ => rfl) (fun j hj => by cases hj) rfl rfl (fl 3 (by omega))
  obtain ⟨s2, q1, q2, q3, q4, q5⟩ := st_L34 f_X10_stands_j61 s1 24 fuel 0 s1 (fun _ _ _ => rfl) (fun j hj => by cases hj) rfl rfl rfl (fl 24 (by omega))
  obtain ⟨s3, r1, r2, r3, r4⟩ := st_L63 f_X10_stands_j88 s2 4 fuel 0 s2 (fun _ _ _ => rfl) (fun j hj => by cases hj) rfl rfl (fl 4 (by omega))
  obtain ⟨s4, t1, t2, t3, t4⟩ := st_L90 f_X10_stands_j117 s3 20 fuel 0 s3 (fun _ _ _ => rfl) (fun j hj => by cases hj) rfl rfl (fl 20 (by omega))
  obtain ⟨s5, u1, u2, u3, u4⟩ := st_L119 f_X10_stands_j146 s4 16 fuel 0 s4 (fun _ _ _ => rfl) (fun j hj => by cases hj) rfl rfl (fl 16 (by omega))
  obtain ⟨s6, v1, v2, v3, v4⟩ := st_L148 f_X10_stands_j175 s5 18 fuel 0 s5 (fun _ _ _ => rfl) (fun j hj => by cases hj) rfl rfl (fl 18 (by omega))
  obtain ⟨s7, w1, w2, w3, w4⟩ := st_L177 f_X10_stands_j202 s6 2 fuel 0 s6 (fun _ _ _ => rfl) (fun j hj => by cases hj) rfl rfl (fl 2 (by omega))
  -- so far only upper halves
  have lo7 : ∀ o k : Nat, ¬ (o = 65 ∧ k = 58) → ¬ (o = 101 ∧ 3 ≤ k) → ¬ (o = 103 ∧ 4 ≤ k) → ¬ (o = 104 ∧ 20 ≤ k) → ¬ (o = 105 ∧ 16 ≤ k) → ¬ (o = 107 ∧ 18 ≤ k) → ¬ (o = 108 ∧ 2 ≤ k) → s7.1 o k = s.1 o k := fun o k x1 x2 x3 x4 x5 x6 x7 => by
    rw [w2 o k (by omega), v2 o k (by omega), u2 o k (by omega), t2 o k (by omega), r2 o k (by omega), q4, p2 o k (by omega), hf0 o k x1]
  have h8 : ∀ o k : Nat, ¬ ((o = 109 ∨ o = 110) ∧ k = 1) → (uI (uI s7 109 1 (s7.1 109 0)) 110 1 (s7.1 110 0)).1 o k = s7.1 o k := fun o k x => by (simp only [ua, ja, u_2, u_3, j_1, j_3]; (repeat' split) <;> first | rfl | (exfalso; omega))
  obtain ⟨C, hC1, hC2⟩ : ∃ C : Nat, C ≤ 1600 ∧ s.1 65 56 = Int32.ofInt (C : Int) := by
    rcases b4 with ⟨d1, d2, d3⟩ | ⟨d1, d2, d3, d4, d5, d6⟩
    · exact ⟨0, by omega, d3⟩
    · exact ⟨(bHm B).toNat, by omega, by rw [d5, show (((bHm B).toNat : Nat) : Int) = bHm B by omega]⟩
  obtain ⟨s9, x1, x2, x3, x4⟩ := st_L228 f_X10_stands_j258 (uI (uI s7 109 1 (s7.1 109 0)) 110 1 (s7.1 110 0)) hC1 (by rw [h8 65 56 (by omega), lo7 65 56 (by omega) (by omega) (by omega) (by omega) (by omega) (by omega) (by omega)]; exact hC2) C fuel 0 _ (fun _ _ _ => rfl) (fun j hj => by cases hj) rfl (by omega) (fl C (by omega))
  obtain ⟨s10, y1, y2, y3, y4⟩ := st_L260 f_X10_stands_j280 s9 225 fuel 0 s9 (fun _ _ _ => rfl) (fun j hj => by cases hj) rfl rfl (fl 225 (by omega))
  have lo10 : ∀ o k : Nat, ¬ o = 112 → ¬ (o = 111 ∧ 1600 ≤ k) → ¬ ((o = 109 ∨ o = 110) ∧ k = 1) → s10.1 o k = s7.1 o k := fun o k z1 z2 z3 => by rw [y2 o k (by omega), x2 o k z2, h8 o k z3]
  have hM10 : s10.1 101 1 = Int32.ofInt (((bM B).toNat : Nat) : Int) := by
    rw [lo10 101 1 (by omega) (by omega) (by omega), lo7 101 1 (by omega) (by omega) (by omega) (by omega) (by omega) (by omega) (by omega), a2, show (((bM B).toNat : Nat) : Int) = bM B by omega]
  obtain ⟨s11, k1, k2, k3, k4⟩ := st_L282 f_X10_stands_j314 s10 (C := (bM B).toNat) (by omega) hM10 (2 * (bM B).toNat) fuel 0 s10 (fun _ _ _ => rfl) (fun j hj => by cases hj) rfl (by omega) (fl _ (by omega))
  have hF11 : s11.1 101 2 = Int32.ofInt (((bF B).toNat : Nat) : Int) := by
    rw [k2 101 2 (by omega), lo10 101 2 (by omega) (by omega) (by omega), lo7 101 2 (by omega) (by omega) (by omega) (by omega) (by omega) (by omega) (by omega), a3, show (((bF B).toNat : Nat) : Int) = bF B by omega]
  obtain ⟨s12, g1, g2, g3, g4⟩ := st_L316 f_X10_stands_j351 s11 (C := (bF B).toNat) (by omega) hF11 (bF B).toNat fuel 0 s11 (fun _ _ _ => rfl) (fun j hj => by cases hj) rfl (by omega) (fl _ (by omega))
  have h13 : ∀ o k : Nat, ¬ (o = 65 ∧ (k = 84 ∨ k = 80)) → (uI (uI s12 65 84 (Int32.ofInt 0)) 65 80 (Int32.ofInt 0)).1 o k = s12.1 o k := fun o k x => by (simp only [ua, ja, u_2, u_3, j_1, j_3]; (repeat' split) <;> first | rfl | (exfalso; omega))
  have lo12 : ∀ o k : Nat, ¬ (o = 112 ∧ 2 ≤ k ∧ k < 24) → s12.1 o k = s10.1 o k := fun o k z => by rw [g2 o k (by omega), k2 o k (by omega)]
  -- what stands in the upper halves
  have up : ∀ o k : Nat, ¬ o = 112 → ¬ (o = 111 ∧ 1600 ≤ k) → ¬ ((o = 109 ∨ o = 110) ∧ k = 1) → ¬ (o = 65 ∧ (k = 84 ∨ k = 80)) → (uI (uI s12 65 84 (Int32.ofInt 0)) 65 80 (Int32.ofInt 0)).1 o k = s7.1 o k := fun o k z1 z2 z3 z4 => by rw [h13 o k z4, lo12 o k (by omega), lo10 o k z1 z2 z3]
  have u101 : ∀ j : Nat, j < 3 → s7.1 101 (3 + j) = s.1 101 j := fun j hj => by rw [w2 _ _ (by omega), v2 _ _ (by omega), u2 _ _ (by omega), t2 _ _ (by omega), r2 _ _ (by omega), q4, p3 j hj, hf0 _ _ (by omega)]
  have u103 : ∀ j : Nat, j < 4 → s7.1 103 (4 + j) = s.1 103 j := fun j hj => by rw [w2 _ _ (by omega), v2 _ _ (by omega), u2 _ _ (by omega), t2 _ _ (by omega), r3 j hj, q4, p2 _ _ (by omega), hf0 _ _ (by omega)]
  have u104 : ∀ j : Nat, j < 20 → s7.1 104 (20 + j) = s.1 104 j := fun j hj => by rw [w2 _ _ (by omega), v2 _ _ (by omega), u2 _ _ (by omega), t3 j hj, r2 _ _ (by omega), q4, p2 _ _ (by omega), hf0 _ _ (by omega)]
  have u105 : ∀ j : Nat, j < 16 → s7.1 105 (16 + j) = s.1 105 j := fun j hj => by rw [w2 _ _ (by omega), v2 _ _ (by omega), u3 j hj, t2 _ _ (by omega), r2 _ _ (by omega), q4, p2 _ _ (by omega), hf0 _ _ (by omega)]
  have u107 : ∀ j : Nat, j < 18 → s7.1 107 (18 + j) = s.1 107 j := fun j hj => by rw [w2 _ _ (by omega), v3 j hj, u2 _ _ (by omega), t2 _ _ (by omega), r2 _ _ (by omega), q4, p2 _ _ (by omega), hf0 _ _ (by omega)]
  have u108 : ∀ j : Nat, j < 2 → s7.1 108 (2 + j) = s.1 108 j := fun j hj => by rw [w3 j hj, v2 _ _ (by omega), u2 _ _ (by omega), t2 _ _ (by omega), r2 _ _ (by omega), q4, p2 _ _ (by omega), hf0 _ _ (by omega)]
  have l7 : s7.2.1 = s2.2.1 := by rw [w4, v4, u4, t4, r4]
  have lA : s12.2 = s7.2 := by rw [g4, k4, y4, x4]; rfl
  have lB : s7.2.2 = s.2.2 := by rw [w4, v4, u4, t4, r4, q5, p4]; rfl
  refine ⟨uI (uI s12 65 84 (Int32.ofInt 0)) 65 80 (Int32.ofInt 0), ?_, ⟨?_, ?_, ?_, ?_⟩, ⟨?_, ?_, u_eq _ _ _ _, fun k k24 k225 => ?_⟩, ⟨fun o k z1 z2 => ?_, fun o k z => ?_, ?_⟩⟩
  · have e0 : (Int32.ofInt 0).toNatClampNeg = 0 := rfl
    have e1 : (Int32.ofInt 1).toNatClampNeg = 1 := rfl
    have j1 : f_X10_stands s = f_X10_stands_j32 s1 := by unfold f_X10_stands; rw [ltd]; exact p1
    have j2 : f_X10_stands_j32 s1 = f_X10_stands_j61 s2 := q1
    have j3 : f_X10_stands_j61 s2 = f_X10_stands_j88 s3 := r1
    have j4 : f_X10_stands_j88 s3 = f_X10_stands_j117 s4 := t1
    have j5 : f_X10_stands_j117 s4 = f_X10_stands_j146 s5 := u1
    have j6 : f_X10_stands_j146 s5 = f_X10_stands_j175 s6 := v1
    have j7 : f_X10_stands_j175 s6 = f_X10_stands_j202 s7 := w1
    have j8 : f_X10_stands_j202 s7 = f_X10_stands_j258 s9 := by
      rw [← x1]
      have h110 : (uI s7 109 1 (s7.1 109 0)).1 110 0 = s7.1 110 0 := u_no (by omega)
      unfold f_X10_stands_j202
      rw [n_gd (by omega) (by omega) (by omega), n_gd (by omega) (by omega) (by omega), n_gd (by omega) (by omega) (by omega), n_gd (by omega) (by omega) (by omega), ltd, e0, e1, h110]
      rfl
    have j9 : f_X10_stands_j258 s9 = f_X10_stands_j280 s10 := y1
    have j10 : f_X10_stands_j280 s10 = f_X10_stands_j314 s11 := k1
    have j11 : f_X10_stands_j314 s11 = f_X10_stands_j351 s12 := g1
    rw [j1, j2, j3, j4, j5, j6, j7, j8, j9, j10, j11]
    unfold f_X10_stands_j351
    rw [ltd]
  · refine ⟨⟨?_, ?_, ?_, ?_, ?_, ?_, ?_, ?_, ?_⟩, fun k k0 k1' => ?_, fun k k0 k1' => ?_, fun k k0 k1' => ?_⟩
    · rw [up _ _ (by omega) (by omega) (by omega) (by omega), u101 0 (by omega)]; exact a1
    · rw [up _ _ (by omega) (by omega) (by omega) (by omega), u101 1 (by omega)]; exact a2
    · rw [up _ _ (by omega) (by omega) (by omega) (by omega), u101 2 (by omega)]; exact a3
    · rw [up _ _ (by omega) (by omega) (by omega) (by omega), u103 0 (by omega)]; exact a4
    · rw [up _ _ (by omega) (by omega) (by omega) (by omega), u103 1 (by omega)]; exact a5
    · rw [up _ _ (by omega) (by omega) (by omega) (by omega), u103 2 (by omega)]; exact a6
    · rw [up _ _ (by omega) (by omega) (by omega) (by omega), u103 3 (by omega)]; exact a7
    · rw [up _ _ (by omega) (by omega) (by omega) (by omega), u108 0 (by omega)]; exact a8
    · rw [up _ _ (by omega) (by omega) (by omega) (by omega), u108 1 (by omega)]; exact a9
    · obtain ⟨d1, d2, d3, d4⟩ := b1 k k0 k1'
      rw [up _ _ (by omega) (by omega) (by omega) (by omega), up _ _ (by omega) (by omega) (by omega) (by omega), up _ _ (by omega) (by omega) (by omega) (by omega), up _ _ (by omega) (by omega) (by omega) (by omega), show (20 + 4 * k).toNat = 20 + (4 * k).toNat by omega, show (21 + 4 * k).toNat = 20 + (4 * k + 1).toNat by omega, show (22 + 4 * k).toNat = 20 + (4 * k + 2).toNat by omega, show (23 + 4 * k).toNat = 20 + (4 * k + 3).toNat by omega, u104 _ (by omega), u104 _ (by omega), u104 _ (by omega), u104 _ (by omega)]
      exact ⟨d1, d2, d3, d4⟩
    · obtain ⟨d1, d2, -, -⟩ := b2 k k0 k1'
      rw [up _ _ (by omega) (by omega) (by omega) (by omega), up _ _ (by omega) (by omega) (by omega) (by omega), show (16 + 2 * k).toNat = 16 + (2 * k).toNat by omega, show (17 + 2 * k).toNat = 16 + (2 * k + 1).toNat by omega, u105 _ (by omega), u105 _ (by omega)]
      exact ⟨d1, d2⟩
    · obtain ⟨d1, d2, -⟩ := b3 k k0 k1'
      rw [up _ _ (by omega) (by omega) (by omega) (by omega), up _ _ (by omega) (by omega) (by omega) (by omega), show (18 + 3 * k).toNat = 18 + (3 * k).toNat by omega, show (19 + 3 * k).toNat = 18 + (3 * k + 1).toNat by omega, u107 _ (by omega), u107 _ (by omega)]
      exact ⟨d1, d2⟩
  · have z112 : ∀ k : Nat, k < 2 → (uI (uI s12 65 84 (Int32.ofInt 0)) 65 80 (Int32.ofInt 0)).1 112 k = Int32.ofInt 0 := fun k hk => by rw [h13 _ _ (by omega), lo12 _ _ (by omega), y3 k (by omega)]
    refine ⟨⟨?_, ?_⟩, fun k k0 k1' => ?_, fun k k0 k1' => ?_⟩
    · rw [hV.2.2.1.2.2.2.1]; exact z112 0 (by omega)
    · rw [hV.2.2.1.2.2.2.2]; exact z112 1 (by omega)
    · obtain ⟨-, -, d3, d4⟩ := b2 k k0 k1'
      rw [h13 _ _ (by omega), h13 _ _ (by omega), g2 _ _ (by omega), g2 _ _ (by omega), show (2 + 2 * k).toNat = 2 + (2 * k).toNat by omega, show (2 + 2 * k + 1).toNat = 2 + (2 * k + 1).toNat by omega, k3 _ (by omega), k3 _ (by omega), lo10 _ _ (by omega) (by omega) (by omega), lo10 _ _ (by omega) (by omega) (by omega), lo7 _ _ (by omega) (by omega) (by omega) (by omega) (by omega) (by omega) (by omega), lo7 _ _ (by omega) (by omega) (by omega) (by omega) (by omega) (by omega) (by omega)]
      exact ⟨d3, d4⟩
    · obtain ⟨-, -, d3⟩ := b3 k k0 k1'
      rw [h13 _ _ (by omega), show (18 + k).toNat = 18 + k.toNat by omega, g3 _ (by omega), k2 _ _ (by omega), lo10 _ _ (by omega) (by omega) (by omega), lo7 _ _ (by omega) (by omega) (by omega) (by omega) (by omega) (by omega) (by omega), show 3 * k.toNat + 2 = (3 * k + 2).toNat by omega]
      exact d3
  · have m109 : (uI (uI s12 65 84 (Int32.ofInt 0)) 65 80 (Int32.ofInt 0)).1 109 1 = s.1 109 0 := by
      rw [h13 _ _ (by omega), lo12 _ _ (by omega), y2 _ _ (by omega), x2 _ _ (by omega), u_no (by omega), u_eq, lo7 _ _ (by omega) (by omega) (by omega) (by omega) (by omega) (by omega) (by omega)]
    have m110 : (uI (uI s12 65 84 (Int32.ofInt 0)) 65 80 (Int32.ofInt 0)).1 110 1 = s.1 110 0 := by
      rw [h13 _ _ (by omega), lo12 _ _ (by omega), y2 _ _ (by omega), x2 _ _ (by omega), u_eq, lo7 _ _ (by omega) (by omega) (by omega) (by omega) (by omega) (by omega) (by omega)]
    rcases b4 with ⟨d1, d2, d3⟩ | ⟨d1, d2, d3, d4, d5, d6⟩
    · exact Or.inl ⟨d1, by rw [m109]; exact d2⟩
    · have hCe : (C : Int) = bHm B := by
        rw [hC2, n_eq (by omega) (by omega) (by omega) (by omega)] at d5
        exact d5
      refine Or.inr ⟨d1, d2, by rw [m109]; exact d3, by rw [m110]; exact d4, fun i i0 i1 => ?_⟩
      rw [h13 _ _ (by omega), lo12 _ _ (by omega), y2 _ _ (by omega), show (1600 + i).toNat = 1600 + i.toNat by omega, x3 i.toNat (by omega), h8 _ _ (by omega), lo7 _ _ (by omega) (by omega) (by omega) (by omega) (by omega) (by omega) (by omega)]
      exact d6 i i0 i1
  · intro k w k0 k1' w0 w1'
    obtain ⟨d1, d2⟩ := b5 k w k0 k1' w0 w1'
    have hcb := cnt_b hV k
    refine ⟨?_, d2⟩
    show s12.2.1 102 (24 + 8 * k + w).toNat = _
    rw [lA, l7, show (24 + 8 * k + w).toNat = 24 + (8 * k + w).toNat by omega, q3 _ (by omega), p4]
    exact d1
  · rw [up _ _ (by omega) (by omega) (by omega) (by omega), w2 _ _ (by omega), v2 _ _ (by omega), u2 _ _ (by omega), t2 _ _ (by omega), r2 _ _ (by omega), q4, p2 _ _ (by omega), u_eq]
  · rw [u_nk (by omega), u_eq]
  · rw [h13 _ _ (by omega), lo12 _ _ (by omega), y3 k k225]
  · rw [up o k (by omega) (by omega) (by omega) (by omega), lo7 o k (by omega) (by omega) (by omega) (by omega) (by omega) (by omega) (by omega)]
  · show s12.2.1 o k = s.2.1 o k
    rw [lA, l7, q2 o k (by omega), p4]
    rfl
  · show s12.2.2 = s.2.2
    rw [lA, lB]
