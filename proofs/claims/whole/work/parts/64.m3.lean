/-! L3: canGo -/
/-- a man's way to (x, y), but for who stands there -/
def wayTo (B : Brd) (G : Gam) (m x y : Int) : Bool := if ab (x - gx G m) = 0 ∧ ab (y - gy G m) = 0 then false else if wy B (kd B m) = 4 then decide (ab (x - gx G m) * ab (y - gy G m) = 2) else decide (farO x y (gx G m) (gy G m) ≤ rch B (kd B m)) && decide (((ab (x - gx G m) = 0 ∨ ab (y - gy G m) = 0) ∧ ¬ wy B (kd B m) = 2) ∨ (ab (x - gx G m) = ab (y - gy G m) ∧ ¬ wy B (kd B m) = 1)) && fr B G (sg (x - gx G m)) (sg (y - gy G m)) (farO x y (gx G m) (gy G m) - 1).toNat (gx G m + sg (x - gx G m)) (gy G m + sg (y - gy G m))
def notOwn (B : Brd) (G : Gam) (m x y : Int) : Bool := decide (mAt B G x y = -1) || decide (¬ sd B (mAt B G x y) = sd B m)
def go (B : Brd) (G : Gam) (m x y : Int) : Bool := if gx G m = -1 then false else wayTo B G m x y && notOwn B G m x y
theorem m_j190 {B : Brd} {G : Gam} {s : ST} (h : MA B G s) {m x y : Int} (h1 : 0 ≤ m) (h2 : m < bM B) (hx1 : -10 ≤ x) (hx2 : x ≤ 10) (hy1 : -10 ≤ y) (hy2 : y ≤ 10) : f_X10_canGo_j190 (Int32.ofInt m) (Int32.ofInt x) (Int32.ofInt y) s = some (bI (notOwn B G m x y), s) := by
  have hm := m_manAt h (a := x) (b := y) (by omega) (by omega) (by omega) (by omega)
  have hs := mAt_spec (B := B) h.1.1.1.2.2.2.2.2.2.1 G x y
  have hM : bM B ≤ 8 := h.1.1.1.2.2.2.2.2.2.2.1
  by_cases e : mAt B G x y = -1
  · simp (disch := omega) only [f_X10_canGo_j190, hm, n_i8, n_i16, n_0, n_31, n_add, n_sub, n_mul, n_neg, n_div, n_rem, n_le_t, n_le_f, n_lt_t, n_lt_f, n_eq_t, n_eq_f, n_cl, n_gd, n_gdt, n_nz, Int.reduceToNat, Int.reduceAdd, Int.reduceSub, Int.reduceMul, Int.reduceNeg, Int.reduceLT, Int.reduceLE, Int.reduceEq, Int.reduceDiv, Int.reduceMod, Nat.reduceAdd, Nat.reduceMul, ↓reduceIte, u_eq, u_no, u_nk, u_ek, u_2, u_3, j_1, j_3, j_eq, j_no, j_nk, lt_def, Option.bind_some, notOwn, e, decide_true, Bool.true_or, bI_t]
  · have e1 := m_sideOf h (m := mAt B G x y) (by omega) (by omega)
    have e2 := m_sideOf h h1 h2
    have k1 := h.1.2.2.1 m h1 h2
    have k2 := h.1.2.2.1 (mAt B G x y) (by omega) (by omega)
    by_cases e3 : sd B (mAt B G x y) = sd B m
    · simp (disch := omega) only [f_X10_canGo_j190, hm, e1, e2, n_i8, n_i16, n_0, n_31, n_add, n_sub, n_mul, n_neg, n_div, n_rem, n_le_t, n_le_f, n_lt_t, n_lt_f, n_eq_t, n_eq_f, n_cl, n_gd, n_gdt, n_nz, Int.reduceToNat, Int.reduceAdd, Int.reduceSub, Int.reduceMul, Int.reduceNeg, Int.reduceLT, Int.reduceLE, Int.reduceEq, Int.reduceDiv, Int.reduceMod, Nat.reduceAdd, Nat.reduceMul, ↓reduceIte, u_eq, u_no, u_nk, u_ek, u_2, u_3, j_1, j_3, j_eq, j_no, j_nk, lt_def, Option.bind_some, notOwn, e, e3, not_true, decide_false, Bool.false_or, bI_f]
    · simp (disch := omega) only [f_X10_canGo_j190, hm, e1, e2, n_i8, n_i16, n_0, n_31, n_add, n_sub, n_mul, n_neg, n_div, n_rem, n_le_t, n_le_f, n_lt_t, n_lt_f, n_eq_t, n_eq_f, n_cl, n_gd, n_gdt, n_nz, Int.reduceToNat, Int.reduceAdd, Int.reduceSub, Int.reduceMul, Int.reduceNeg, Int.reduceLT, Int.reduceLE, Int.reduceEq, Int.reduceDiv, Int.reduceMod, Nat.reduceAdd, Nat.reduceMul, ↓reduceIte, u_eq, u_no, u_nk, u_ek, u_2, u_3, j_1, j_3, j_eq, j_no, j_nk, lt_def, Option.bind_some, notOwn, e, e3, not_false_eq_true, decide_false, decide_true, Bool.false_or, bI_t]
theorem m_isWayFree {B : Brd} {G : Gam} {s : ST} (h : MA B G s) {m x y : Int} (h1 : 0 ≤ m) (h2 : m < bM B) (hx1 : -5 ≤ x) (hx2 : x ≤ 5) (hy1 : -5 ≤ y) (hy2 : y ≤ 5) (hn : ¬ (x = gx G m ∧ y = gy G m)) (hq : x = gx G m ∨ y = gy G m ∨ ab (x - gx G m) = ab (y - gy G m)) : f_X10_isWayFree (Int32.ofInt m) (Int32.ofInt x) (Int32.ofInt y) s = some (bI (fr B G (sg (x - gx G m)) (sg (y - gy G m)) (farO x y (gx G m) (gy G m) - 1).toNat (gx G m + sg (x - gx G m)) (gy G m + sg (y - gy G m))), s) := by
  have hc := m_columnOf h h1 h2
  have hr := m_rowOf h h1 h2
  have hp := h.2.1.2.1 m h1 h2
  have hW : bW B ≤ 5 := h.1.1.1.2.1
  have hH : bH B ≤ 5 := h.1.1.1.2.2.2.1
  have s1 := m_sign (s := s) (a := x - gx G m) (by omega) (by omega)
  have s2 := m_sign (s := s) (a := y - gy G m) (by omega) (by omega)
  have q1 : sg (x - gx G m) = -1 ∨ sg (x - gx G m) = 0 ∨ sg (x - gx G m) = 1 := by unfold sg; omega
  have q2 : sg (y - gy G m) = -1 ∨ sg (y - gy G m) = 0 ∨ sg (y - gy G m) = 1 := by unfold sg; omega
  have q3 : ¬ (sg (x - gx G m) = 0 ∧ sg (y - gy G m) = 0) := by unfold sg; omega
  have hf : (0 ≤ farO x y (gx G m) (gy G m) - 1) ∧ farO x y (gx G m) (gy G m) ≤ 15 := by unfold farO ab; unfold ab at hq; omega
  have r1 : gx G m + sg (x - gx G m) + ((farO x y (gx G m) (gy G m) - 1).toNat : Int) * sg (x - gx G m) = x := by
    rw [Int.toNat_of_nonneg hf.1]
    unfold ab at hq
    rcases q1 with e | e | e <;> rw [e] <;> unfold sg at e <;> unfold farO ab <;> omega
  have r2 : gy G m + sg (y - gy G m) + ((farO x y (gx G m) (gy G m) - 1).toNat : Int) * sg (y - gy G m) = y := by
    rw [Int.toNat_of_nonneg hf.1]
    unfold ab at hq
    rcases q2 with e | e | e <;> rw [e] <;> unfold sg at e <;> unfold farO ab <;> omega
  have hl := m_free_L h (x := x) (y := y) (by omega) (by omega) (by omega) (by omega) q1 q2 q3 (farO x y (gx G m) (gy G m) - 1).toNat fuel (gx G m + sg (x - gx G m)) (gy G m + sg (y - gy G m)) (by omega) r1 r2 (by unfold fuel; omega)
  simp (disch := omega) only [f_X10_isWayFree, hc, hr, n_i8, n_i16, n_0, n_31, n_add, n_sub, n_mul, n_neg, n_div, n_rem, n_le_t, n_le_f, n_lt_t, n_lt_f, n_eq_t, n_eq_f, n_cl, n_gd, n_gdt, n_nz, Int.reduceToNat, Int.reduceAdd, Int.reduceSub, Int.reduceMul, Int.reduceNeg, Int.reduceLT, Int.reduceLE, Int.reduceEq, Int.reduceDiv, Int.reduceMod, Nat.reduceAdd, Nat.reduceMul, ↓reduceIte, u_eq, u_no, u_nk, u_ek, u_2, u_3, j_1, j_3, j_eq, j_no, j_nk, lt_def, Option.bind_some, s1, s2, hl]
theorem m_canGo {B : Brd} {G : Gam} {s : ST} (h : MA B G s) {m k : Int} (h1 : 0 ≤ m) (h2 : m < bM B) (hk1 : 0 ≤ k) (hk2 : k < bW B * bH B) : f_X10_canGo (Int32.ofInt m) (Int32.ofInt k) s = some (bI (go B G m (k % bW B) (k / bW B)), s) := by
  have hc := m_columnOf h h1 h2
  have hr := m_rowOf h h1 h2
  have ht := m_isTaken h h1 h2
  have hkd := m_kindOf h h1 h2
  have hp := h.2.1.2.1 m h1 h2
  have hW : bW B ≤ 5 := h.1.1.1.2.1
  have hH : bH B ≤ 5 := h.1.1.1.2.2.2.1
  have hW0 : 0 ≤ bW B := h.1.1.1.1
  have hH0 : 0 ≤ bH B := h.1.1.1.2.2.1
  have hWp : 0 < bW B := by
    rcases Int.lt_or_eq_of_le hW0 with e | e
    · exact e
    · rw [← e] at hk2; omega
  have c4 : s.1 103 4 = Int32.ofInt (bW B) := h.2.2.1.1.2.2.2.1
  by_cases hx : gx G m = -1
  · have : go B G m (k % bW B) (k / bW B) = false := by unfold go; rw [if_pos hx]
    rw [this]
    simp (disch := omega) only [f_X10_canGo, ht, hx, decide_true, bI_t, bI_f, n_i8, n_i16, n_0, n_31, n_add, n_sub, n_mul, n_neg, n_div, n_rem, n_le_t, n_le_f, n_lt_t, n_lt_f, n_eq_t, n_eq_f, n_cl, n_gd, n_gdt, n_nz, Int.reduceToNat, Int.reduceAdd, Int.reduceSub, Int.reduceMul, Int.reduceNeg, Int.reduceLT, Int.reduceLE, Int.reduceEq, Int.reduceDiv, Int.reduceMod, Nat.reduceAdd, Nat.reduceMul, ↓reduceIte, u_eq, u_no, u_nk, u_ek, u_2, u_3, j_1, j_3, j_eq, j_no, j_nk, lt_def, Option.bind_some]
  · have x1 : 0 ≤ k % bW B := Int.emod_nonneg _ (by omega)
    have x2 : k % bW B < bW B := Int.emod_lt_of_pos _ hWp
    have y1 : 0 ≤ k / bW B := Int.ediv_nonneg hk1 hW0
    have y2 : k / bW B < bH B := Int.ediv_lt_of_lt_mul hWp (by rw [Int.mul_comm]; exact hk2)
    have k25 : k < 25 := by
      have : bW B * bH B ≤ 5 * 5 := Int.mul_le_mul hW hH hH0 (by omega)
      omega
    have hR : k - k / bW B * bW B = k % bW B := n_rem k (bW B)
    generalize hX : k % bW B = x at *
    generalize hY : k / bW B = y at *
    have a1 := m_abs (s := s) (a := x - gx G m) (by omega) (by omega)
    have a2 := m_abs (s := s) (a := y - gy G m) (by omega) (by omega)
    have hg : go B G m x y = (wayTo B G m x y && notOwn B G m x y) := by unfold go; rw [if_neg hx]
    rw [hg]
    have hj := m_j190 h h1 h2 (x := x) (y := y) (by omega) (by omega) (by omega) (by omega)
    have hbm := h.1.2.2.1 m h1 h2
    have hbk := h.1.2.1 (kd B m) hbm.1 hbm.2.1
    have hb10 : bK B ≤ 5 := h.1.1.1.2.2.2.2.2.1
    have hw := h.2.2.1.2.1 (kd B m) hbm.1 hbm.2.1
    have p1 : 0 ≤ ab (x - gx G m) ∧ ab (x - gx G m) ≤ 10 := by unfold ab; omega
    have p2 : 0 ≤ ab (y - gy G m) ∧ ab (y - gy G m) ≤ 10 := by unfold ab; omega
    by_cases h00 : ab (x - gx G m) = 0 ∧ ab (y - gy G m) = 0
    · have : wayTo B G m x y = false := by unfold wayTo; rw [if_pos h00]
      rw [this]
      simp (disch := omega) only [f_X10_canGo, ht, hx, hc, hr, hX, hY, hR, a1, a2, c4, decide_false, Bool.false_and, bI_t, bI_f, n_i8, n_i16, n_0, n_31, n_add, n_sub, n_mul, n_neg, n_div, n_rem, n_le_t, n_le_f, n_lt_t, n_lt_f, n_eq_t, n_eq_f, n_cl, n_gd, n_gdt, n_nz, Int.reduceToNat, Int.reduceAdd, Int.reduceSub, Int.reduceMul, Int.reduceNeg, Int.reduceLT, Int.reduceLE, Int.reduceEq, Int.reduceDiv, Int.reduceMod, Nat.reduceAdd, Nat.reduceMul, ↓reduceIte, u_eq, u_no, u_nk, u_ek, u_2, u_3, j_1, j_3, j_eq, j_no, j_nk, lt_def, Option.bind_some]
    · have key : f_X10_canGo_j66 (Int32.ofInt m) (Int32.ofInt x) (Int32.ofInt y) (Int32.ofInt (ab (x - gx G m))) (Int32.ofInt (ab (y - gy G m))) s = some (bI (wayTo B G m x y && notOwn B G m x y), s) := by
        have e0 : wayTo B G m x y = if wy B (kd B m) = 4 then decide (ab (x - gx G m) * ab (y - gy G m) = 2) else decide (farO x y (gx G m) (gy G m) ≤ rch B (kd B m)) && decide (((ab (x - gx G m) = 0 ∨ ab (y - gy G m) = 0) ∧ ¬ wy B (kd B m) = 2) ∨ (ab (x - gx G m) = ab (y - gy G m) ∧ ¬ wy B (kd B m) = 1)) && fr B G (sg (x - gx G m)) (sg (y - gy G m)) (farO x y (gx G m) (gy G m) - 1).toNat (gx G m + sg (x - gx G m)) (gy G m + sg (y - gy G m)) := by
          show (if _ then _ else _) = _
          rw [if_neg h00]
        rw [e0]
        by_cases e4 : wy B (kd B m) = 4
        · have hpq : 0 ≤ ab (x - gx G m) * ab (y - gy G m) ∧ ab (x - gx G m) * ab (y - gy G m) ≤ 10 * 10 := ⟨Int.mul_nonneg p1.1 p2.1, Int.mul_le_mul p1.2 p2.2 p2.1 (by omega)⟩
          by_cases e5 : ab (x - gx G m) * ab (y - gy G m) = 2
          · simp (disch := omega) only [f_X10_canGo_j66, hkd, hw.1, e4, e5, hj, decide_true, Bool.true_and, n_i8, n_i16, n_0, n_31, n_add, n_sub, n_mul, n_neg, n_div, n_rem, n_le_t, n_le_f, n_lt_t, n_lt_f, n_eq_t, n_eq_f, n_cl, n_gd, n_gdt, n_nz, Int.reduceToNat, Int.reduceAdd, Int.reduceSub, Int.reduceMul, Int.reduceNeg, Int.reduceLT, Int.reduceLE, Int.reduceEq, Int.reduceDiv, Int.reduceMod, Nat.reduceAdd, Nat.reduceMul, ↓reduceIte, u_eq, u_no, u_nk, u_ek, u_2, u_3, j_1, j_3, j_eq, j_no, j_nk, lt_def, Option.bind_some]
          · simp (disch := omega) only [f_X10_canGo_j66, hkd, hw.1, e4, e5, hj, decide_false, Bool.false_and, bI_f, n_i8, n_i16, n_0, n_31, n_add, n_sub, n_mul, n_neg, n_div, n_rem, n_le_t, n_le_f, n_lt_t, n_lt_f, n_eq_t, n_eq_f, n_cl, n_gd, n_gdt, n_nz, Int.reduceToNat, Int.reduceAdd, Int.reduceSub, Int.reduceMul, Int.reduceNeg, Int.reduceLT, Int.reduceLE, Int.reduceEq, Int.reduceDiv, Int.reduceMod, Nat.reduceAdd, Nat.reduceMul, ↓reduceIte, u_eq, u_no, u_nk, u_ek, u_2, u_3, j_1, j_3, j_eq, j_no, j_nk, lt_def, Option.bind_some]
        · rw [if_neg e4]
          have hfo := m_farOff (s := s) (x := x) (y := y) (a := gx G m) (b := gy G m) (by omega) (by omega) (by omega) (by omega) (by omega) (by omega) (by omega) (by omega)
          have hfb : 0 ≤ farO x y (gx G m) (gy G m) ∧ farO x y (gx G m) (gy G m) ≤ 10 := by unfold farO; split <;> omega
          have w0 : wayTo B G m x y = wayTo B G m x y := rfl
          have hn : ¬ (x = gx G m ∧ y = gy G m) := by unfold ab at h00; omega
          have j177 : (x = gx G m ∨ y = gy G m ∨ ab (x - gx G m) = ab (y - gy G m)) → f_X10_canGo_j177 (Int32.ofInt m) (Int32.ofInt x) (Int32.ofInt y) s = some (bI (fr B G (sg (x - gx G m)) (sg (y - gy G m)) (farO x y (gx G m) (gy G m) - 1).toNat (gx G m + sg (x - gx G m)) (gy G m + sg (y - gy G m)) && notOwn B G m x y), s) := by
            intro hq
            have hfree := m_isWayFree h h1 h2 (x := x) (y := y) (by omega) (by omega) (by omega) (by omega) hn hq
            cases hfr : fr B G (sg (x - gx G m)) (sg (y - gy G m)) (farO x y (gx G m) (gy G m) - 1).toNat (gx G m + sg (x - gx G m)) (gy G m + sg (y - gy G m)) with
            | true => simp (disch := omega) only [f_X10_canGo_j177, hfree, hfr, hj, bI_t, Bool.true_and, n_i8, n_i16, n_0, n_31, n_add, n_sub, n_mul, n_neg, n_div, n_rem, n_le_t, n_le_f, n_lt_t, n_lt_f, n_eq_t, n_eq_f, n_cl, n_gd, n_gdt, n_nz, Int.reduceToNat, Int.reduceAdd, Int.reduceSub, Int.reduceMul, Int.reduceNeg, Int.reduceLT, Int.reduceLE, Int.reduceEq, Int.reduceDiv, Int.reduceMod, Nat.reduceAdd, Nat.reduceMul, ↓reduceIte, u_eq, u_no, u_nk, u_ek, u_2, u_3, j_1, j_3, j_eq, j_no, j_nk, lt_def, Option.bind_some]
            | false => simp (disch := omega) only [f_X10_canGo_j177, hfree, hfr, hj, bI_f, Bool.false_and, n_i8, n_i16, n_0, n_31, n_add, n_sub, n_mul, n_neg, n_div, n_rem, n_le_t, n_le_f, n_lt_t, n_lt_f, n_eq_t, n_eq_f, n_cl, n_gd, n_gdt, n_nz, Int.reduceToNat, Int.reduceAdd, Int.reduceSub, Int.reduceMul, Int.reduceNeg, Int.reduceLT, Int.reduceLE, Int.reduceEq, Int.reduceDiv, Int.reduceMod, Nat.reduceAdd, Nat.reduceMul, ↓reduceIte, u_eq, u_no, u_nk, u_ek, u_2, u_3, j_1, j_3, j_eq, j_no, j_nk, lt_def, Option.bind_some]
          have j164 : ∀ w : Int, w = wy B (kd B m) → f_X10_canGo_j164 (Int32.ofInt m) (Int32.ofInt x) (Int32.ofInt y) (Int32.ofInt (ab (x - gx G m))) (Int32.ofInt (ab (y - gy G m))) (Int32.ofInt w) s = some (bI (decide (ab (x - gx G m) = ab (y - gy G m) ∧ ¬ wy B (kd B m) = 1) && fr B G (sg (x - gx G m)) (sg (y - gy G m)) (farO x y (gx G m) (gy G m) - 1).toNat (gx G m + sg (x - gx G m)) (gy G m + sg (y - gy G m)) && notOwn B G m x y), s) := by
            intro w hw'
            subst hw'
            by_cases e5 : ab (x - gx G m) = ab (y - gy G m)
            · have j := j177 (Or.inr (Or.inr e5))
              by_cases e6 : wy B (kd B m) = 1
              · simp (disch := omega) only [f_X10_canGo_j164, e5, e6, not_true, and_false, decide_false, Bool.false_and, bI_f, n_i8, n_i16, n_0, n_31, n_add, n_sub, n_mul, n_neg, n_div, n_rem, n_le_t, n_le_f, n_lt_t, n_lt_f, n_eq_t, n_eq_f, n_cl, n_gd, n_gdt, n_nz, Int.reduceToNat, Int.reduceAdd, Int.reduceSub, Int.reduceMul, Int.reduceNeg, Int.reduceLT, Int.reduceLE, Int.reduceEq, Int.reduceDiv, Int.reduceMod, Nat.reduceAdd, Nat.reduceMul, ↓reduceIte, u_eq, u_no, u_nk, u_ek, u_2, u_3, j_1, j_3, j_eq, j_no, j_nk, lt_def, Option.bind_some]
              · simp (disch := omega) only [f_X10_canGo_j164, e5, e6, not_false_eq_true, and_self, decide_true, Bool.true_and, n_i8, n_i16, n_0, n_31, n_add, n_sub, n_mul, n_neg, n_div, n_rem, n_le_t, n_le_f, n_lt_t, n_lt_f, n_eq_t, n_eq_f, n_cl, n_gd, n_gdt, n_nz, Int.reduceToNat, Int.reduceAdd, Int.reduceSub, Int.reduceMul, Int.reduceNeg, Int.reduceLT, Int.reduceLE, Int.reduceEq, Int.reduceDiv, Int.reduceMod, Nat.reduceAdd, Nat.reduceMul, ↓reduceIte, u_eq, u_no, u_nk, u_ek, u_2, u_3, j_1, j_3, j_eq, j_no, j_nk, lt_def, Option.bind_some, j]
            · simp (disch := omega) only [f_X10_canGo_j164, e5, false_and, decide_false, Bool.false_and, bI_f, n_i8, n_i16, n_0, n_31, n_add, n_sub, n_mul, n_neg, n_div, n_rem, n_le_t, n_le_f, n_lt_t, n_lt_f, n_eq_t, n_eq_f, n_cl, n_gd, n_gdt, n_nz, Int.reduceToNat, Int.reduceAdd, Int.reduceSub, Int.reduceMul, Int.reduceNeg, Int.reduceLT, Int.reduceLE, Int.reduceEq, Int.reduceDiv, Int.reduceMod, Nat.reduceAdd, Nat.reduceMul, ↓reduceIte, u_eq, u_no, u_nk, u_ek, u_2, u_3, j_1, j_3, j_eq, j_no, j_nk, lt_def, Option.bind_some]
          have j164 := j164 _ rfl
          have j115 : ∀ y0 : Bool, y0 = decide (ab (x - gx G m) = 0 ∨ ab (y - gy G m) = 0) → f_X10_canGo_j115 (Int32.ofInt m) (Int32.ofInt x) (Int32.ofInt y) (Int32.ofInt (ab (x - gx G m))) (Int32.ofInt (ab (y - gy G m))) (Int32.ofInt (wy B (kd B m))) (bI y0) s = some (bI (decide (farO x y (gx G m) (gy G m) ≤ rch B (kd B m)) && decide (((ab (x - gx G m) = 0 ∨ ab (y - gy G m) = 0) ∧ ¬ wy B (kd B m) = 2) ∨ (ab (x - gx G m) = ab (y - gy G m) ∧ ¬ wy B (kd B m) = 1)) && fr B G (sg (x - gx G m)) (sg (y - gy G m)) (farO x y (gx G m) (gy G m) - 1).toNat (gx G m + sg (x - gx G m)) (gy G m + sg (y - gy G m)) && notOwn B G m x y), s) := by
            intro y0 hy0
            by_cases e6 : farO x y (gx G m) (gy G m) ≤ rch B (kd B m)
            · by_cases e7 : ab (x - gx G m) = 0 ∨ ab (y - gy G m) = 0
              · have hy0 : y0 = true := by rw [hy0]; exact decide_eq_true e7
                subst hy0
                by_cases e8 : wy B (kd B m) = 2
                · have hd : decide (((ab (x - gx G m) = 0 ∨ ab (y - gy G m) = 0) ∧ ¬ wy B (kd B m) = 2) ∨ (ab (x - gx G m) = ab (y - gy G m) ∧ ¬ wy B (kd B m) = 1)) = decide (ab (x - gx G m) = ab (y - gy G m) ∧ ¬ wy B (kd B m) = 1) := by simp [e8]
                  simp (disch := omega) only [f_X10_canGo_j115, hc, hr, hfo, hkd, hw.2.1, e6, hd, bI_t, n_i8, n_i16, n_0, n_31, n_add, n_sub, n_mul, n_neg, n_div, n_rem, n_le_t, n_le_f, n_lt_t, n_lt_f, n_eq_t, n_eq_f, n_cl, n_gd, n_gdt, n_nz, Int.reduceToNat, Int.reduceAdd, Int.reduceSub, Int.reduceMul, Int.reduceNeg, Int.reduceLT, Int.reduceLE, Int.reduceEq, Int.reduceDiv, Int.reduceMod, Nat.reduceAdd, Nat.reduceMul, ↓reduceIte, u_eq, u_no, u_nk, u_ek, u_2, u_3, j_1, j_3, j_eq, j_no, j_nk, lt_def, Option.bind_some, decide_true, Bool.true_and, j164]
                · have e9 : x = gx G m ∨ y = gy G m ∨ ab (x - gx G m) = ab (y - gy G m) := by unfold ab at e7; omega
                  simp (disch := omega) only [f_X10_canGo_j115, hc, hr, hfo, hkd, hw.2.1, e6, e7, e8, bI_t, n_i8, n_i16, n_0, n_31, n_add, n_sub, n_mul, n_neg, n_div, n_rem, n_le_t, n_le_f, n_lt_t, n_lt_f, n_eq_t, n_eq_f, n_cl, n_gd, n_gdt, n_nz, Int.reduceToNat, Int.reduceAdd, Int.reduceSub, Int.reduceMul, Int.reduceNeg, Int.reduceLT, Int.reduceLE, Int.reduceEq, Int.reduceDiv, Int.reduceMod, Nat.reduceAdd, Nat.reduceMul, ↓reduceIte, u_eq, u_no, u_nk, u_ek, u_2, u_3, j_1, j_3, j_eq, j_no, j_nk, lt_def, Option.bind_some, not_false_eq_true, and_self, true_or, decide_true, Bool.true_and, j177 e9]
              · have hy0 : y0 = false := by rw [hy0]; exact decide_eq_false e7
                subst hy0
                simp (disch := omega) only [f_X10_canGo_j115, hc, hr, hfo, hkd, hw.2.1, e6, e7, bI_f, n_i8, n_i16, n_0, n_31, n_add, n_sub, n_mul, n_neg, n_div, n_rem, n_le_t, n_le_f, n_lt_t, n_lt_f, n_eq_t, n_eq_f, n_cl, n_gd, n_gdt, n_nz, Int.reduceToNat, Int.reduceAdd, Int.reduceSub, Int.reduceMul, Int.reduceNeg, Int.reduceLT, Int.reduceLE, Int.reduceEq, Int.reduceDiv, Int.reduceMod, Nat.reduceAdd, Nat.reduceMul, ↓reduceIte, u_eq, u_no, u_nk, u_ek, u_2, u_3, j_1, j_3, j_eq, j_no, j_nk, lt_def, Option.bind_some, false_and, false_or, decide_true, Bool.true_and, j164]
            · simp (disch := omega) only [f_X10_canGo_j115, hc, hr, hfo, hkd, hw.2.1, e6, bI_f, n_i8, n_i16, n_0, n_31, n_add, n_sub, n_mul, n_neg, n_div, n_rem, n_le_t, n_le_f, n_lt_t, n_lt_f, n_eq_t, n_eq_f, n_cl, n_gd, n_gdt, n_nz, Int.reduceToNat, Int.reduceAdd, Int.reduceSub, Int.reduceMul, Int.reduceNeg, Int.reduceLT, Int.reduceLE, Int.reduceEq, Int.reduceDiv, Int.reduceMod, Nat.reduceAdd, Nat.reduceMul, ↓reduceIte, u_eq, u_no, u_nk, u_ek, u_2, u_3, j_1, j_3, j_eq, j_no, j_nk, lt_def, Option.bind_some, decide_false, Bool.false_and]
          by_cases e5 : ab (x - gx G m) = 0
          · have j := j115 true (decide_eq_true (Or.inl e5)).symm
            rw [bI_t] at j
            simp (disch := omega) only [f_X10_canGo_j66, hkd, hw.1, n_i8, n_i16, n_0, n_31, n_add, n_sub, n_mul, n_neg, n_div, n_rem, n_le_t, n_le_f, n_lt_t, n_lt_f, n_eq_t, n_eq_f, n_cl, n_gd, n_gdt, n_nz, Int.reduceToNat, Int.reduceAdd, Int.reduceSub, Int.reduceMul, Int.reduceNeg, Int.reduceLT, Int.reduceLE, Int.reduceEq, Int.reduceDiv, Int.reduceMod, Nat.reduceAdd, Nat.reduceMul, ↓reduceIte, u_eq, u_no, u_nk, u_ek, u_2, u_3, j_1, j_3, j_eq, j_no, j_nk, lt_def, Option.bind_some, j]
          · by_cases e6 : ab (y - gy G m) = 0
            · have j := j115 true (decide_eq_true (Or.inr e6)).symm
              rw [bI_t] at j
              simp (disch := omega) only [f_X10_canGo_j66, hkd, hw.1, n_i8, n_i16, n_0, n_31, n_add, n_sub, n_mul, n_neg, n_div, n_rem, n_le_t, n_le_f, n_lt_t, n_lt_f, n_eq_t, n_eq_f, n_cl, n_gd, n_gdt, n_nz, Int.reduceToNat, Int.reduceAdd, Int.reduceSub, Int.reduceMul, Int.reduceNeg, Int.reduceLT, Int.reduceLE, Int.reduceEq, Int.reduceDiv, Int.reduceMod, Nat.reduceAdd, Nat.reduceMul, ↓reduceIte, u_eq, u_no, u_nk, u_ek, u_2, u_3, j_1, j_3, j_eq, j_no, j_nk, lt_def, Option.bind_some, j]
            · have j := j115 false (decide_eq_false (by omega)).symm
              rw [bI_f] at j
              simp (disch := omega) only [f_X10_canGo_j66, hkd, hw.1, n_i8, n_i16, n_0, n_31, n_add, n_sub, n_mul, n_neg, n_div, n_rem, n_le_t, n_le_f, n_lt_t, n_lt_f, n_eq_t, n_eq_f, n_cl, n_gd, n_gdt, n_nz, Int.reduceToNat, Int.reduceAdd, Int.reduceSub, Int.reduceMul, Int.reduceNeg, Int.reduceLT, Int.reduceLE, Int.reduceEq, Int.reduceDiv, Int.reduceMod, Nat.reduceAdd, Nat.reduceMul, ↓reduceIte, u_eq, u_no, u_nk, u_ek, u_2, u_3, j_1, j_3, j_eq, j_no, j_nk, lt_def, Option.bind_some, j]
      by_cases e5 : ab (x - gx G m) = 0
      · simp (disch := omega) only [f_X10_canGo, ht, hx, hc, hr, hX, hY, hR, a1, a2, c4, decide_false, bI_f, n_i8, n_i16, n_0, n_31, n_add, n_sub, n_mul, n_neg, n_div, n_rem, n_le_t, n_le_f, n_lt_t, n_lt_f, n_eq_t, n_eq_f, n_cl, n_gd, n_gdt, n_nz, Int.reduceToNat, Int.reduceAdd, Int.reduceSub, Int.reduceMul, Int.reduceNeg, Int.reduceLT, Int.reduceLE, Int.reduceEq, Int.reduceDiv, Int.reduceMod, Nat.reduceAdd, Nat.reduceMul, ↓reduceIte, u_eq, u_no, u_nk, u_ek, u_2, u_3, j_1, j_3, j_eq, j_no, j_nk, lt_def, Option.bind_some, key]
      · simp (disch := omega) only [f_X10_canGo, ht, hx, hc, hr, hX, hY, hR, a1, a2, c4, decide_false, bI_f, n_i8, n_i16, n_0, n_31, n_add, n_sub, n_mul, n_neg, n_div, n_rem, n_le_t, n_le_f, n_lt_t, n_lt_f, n_eq_t, n_eq_f, n_cl, n_gd, n_gdt, n_nz, Int.reduceToNat, Int.reduceAdd, Int.reduceSub, Int.reduceMul, Int.reduceNeg, Int.reduceLT, Int.reduceLE, Int.reduceEq, Int.reduceDiv, Int.reduceMod, Nat.reduceAdd, Nat.reduceMul, ↓reduceIte, u_eq, u_no, u_nk, u_ek, u_2, u_3, j_1, j_3, j_eq, j_no, j_nk, lt_def, Option.bind_some, key]
