/-! L3: a move done and undone, in the reference -/
theorem m_isCheck_L {B : Brd} {G : Gam} {s : ST} (h : MA B G s) {t c : Int} (ht0 : 0 ≤ t) (ht1 : t ≤ 1) (hc0 : 0 ≤ c) (hc1 : c < bM B) (hcx : ¬ gx G c = -1) (K : Int32 → Int32 → ST → Option (Int32 × ST)) : ∀ (n F : Nat) (i : Int), 0 ≤ i → (n : Int) = bM B - i → n < F → f_X10_isCheck_L40 K F (Int32.ofInt t) (Int32.ofInt c) (Int32.ofInt i) s = if (upto n i).any (fun m => !decide (sd B m = t) && go B G m (gx G c) (gy G c)) = true then some (Int32.ofInt 1, s) else K (Int32.ofInt t) (Int32.ofInt (c + 1)) s := by
  intro n
  have hmm := m_manMany h
  have hc := m_columnOf h hc0 hc1
  have hr := m_rowOf h hc0 hc1
  have hp := h.2.1.2.1 c hc0 hc1
  have c4 : s.1 103 4 = Int32.ofInt (bW B) := h.2.2.1.1.2.2.2.1
  have hM : bM B ≤ 8 := h.1.1.1.2.2.2.2.2.2.2.1; have hM0 : 0 ≤ bM B := h.1.1.1.2.2.2.2.2.2.1
  have hW : bW B ≤ 5 := h.1.1.1.2.1; have hH : bH B ≤ 5 := h.1.1.1.2.2.2.1; have hW0 : 0 ≤ bW B := h.1.1.1.1; have hH0 : 0 ≤ bH B := h.1.1.1.2.2.1; have hWH : bW B * bH B ≤ 25 := (Int.mul_le_mul hW hH hH0 (by omega)); have hWH0 : 0 ≤ bW B * bH B := Int.mul_nonneg hW0 hH0
  have hWp : 0 < bW B := by omega
  have k1 : (gx G c + bW B * gy G c) % bW B = gx G c := by rw [Int.add_mul_emod_self_left]; exact Int.emod_eq_of_lt (by omega) (by omega)
  have k2 : (gx G c + bW B * gy G c) / bW B = gy G c := by rw [Int.add_mul_ediv_left _ _ (by omega)]; rw [Int.ediv_eq_zero_of_lt (by omega) (by omega)]; omega
  have k3 : 0 ≤ bW B * gy G c := Int.mul_nonneg hW0 (by omega)
  have k4 : bW B * gy G c ≤ bW B * (bH B - 1) := Int.mul_le_mul_of_nonneg_left (by omega) hW0
  have k5 : bW B * (bH B - 1) = bW B * bH B - bW B := by rw [Int.mul_sub, Int.mul_one]
  induction n with
  | zero =>
    intro F i h0 hn hF
    obtain ⟨F, rfl⟩ : ∃ F', F = F' + 1 := ⟨F - 1, by omega⟩
    simp (disch := omega) only [f_X10_isCheck_L40, hmm, n_i8, n_i16, n_0, n_31, n_add, n_sub, n_mul, n_neg, n_div, n_rem, n_le_t, n_le_f, n_lt_t, n_lt_f, n_eq_t, n_eq_f, n_cl, n_gd, n_gdt, n_nz, Int.reduceToNat, Int.reduceAdd, Int.reduceSub, Int.reduceMul, Int.reduceNeg, Int.reduceLT, Int.reduceLE, Int.reduceEq, Int.reduceDiv, Int.reduceMod, Nat.reduceAdd, Nat.reduceMul, ↓reduceIte, u_eq, u_no, u_nk, u_ek, u_2, u_3, j_1, j_3, j_eq, j_no, j_nk, lt_def, Option.bind_some, upto, List.any_nil, Bool.false_eq_true]
  | succ n ih =>
    intro F i h0 hn hF
    obtain ⟨F, rfl⟩ : ∃ F', F = F' + 1 := ⟨F - 1, by omega⟩
    have ih := ih F (i + 1) (by omega) (by omega) (by omega)
    have hs := m_sideOf h h0 (show i < bM B by omega)
    have hb := h.1.2.2.1 i h0 (by omega)
    have hg := m_canGo h (m := i) (k := gx G c + bW B * gy G c) h0 (by omega) (by omega) (by omega)
    rw [k1, k2] at hg
    by_cases e1 : sd B i = t
    · simp (disch := omega) only [f_X10_isCheck_L40, hmm, hs, n_i8, n_i16, n_0, n_31, n_add, n_sub, n_mul, n_neg, n_div, n_rem, n_le_t, n_le_f, n_lt_t, n_lt_f, n_eq_t, n_eq_f, n_cl, n_gd, n_gdt, n_nz, Int.reduceToNat, Int.reduceAdd, Int.reduceSub, Int.reduceMul, Int.reduceNeg, Int.reduceLT, Int.reduceLE, Int.reduceEq, Int.reduceDiv, Int.reduceMod, Nat.reduceAdd, Nat.reduceMul, ↓reduceIte, u_eq, u_no, u_nk, u_ek, u_2, u_3, j_1, j_3, j_eq, j_no, j_nk, lt_def, Option.bind_some, upto, List.any_cons, e1, decide_true, Bool.not_true, Bool.false_and, Bool.false_or, ih]
    · cases e2 : go B G i (gx G c) (gy G c) with
      | true =>
        rw [e2] at hg
        simp (disch := omega) only [f_X10_isCheck_L40, hmm, hs, hc, hr, c4, hg, n_i8, n_i16, n_0, n_31, n_add, n_sub, n_mul, n_neg, n_div, n_rem, n_le_t, n_le_f, n_lt_t, n_lt_f, n_eq_t, n_eq_f, n_cl, n_gd, n_gdt, n_nz, Int.reduceToNat, Int.reduceAdd, Int.reduceSub, Int.reduceMul, Int.reduceNeg, Int.reduceLT, Int.reduceLE, Int.reduceEq, Int.reduceDiv, Int.reduceMod, Nat.reduceAdd, Nat.reduceMul, ↓reduceIte, u_eq, u_no, u_nk, u_ek, u_2, u_3, j_1, j_3, j_eq, j_no, j_nk, lt_def, Option.bind_some, upto, List.any_cons, e1, e2, decide_false, Bool.not_false, Bool.true_and, Bool.true_or, bI_t]
      | false =>
        rw [e2] at hg
        simp (disch := omega) only [f_X10_isCheck_L40, hmm, hs, hc, hr, c4, hg, n_i8, n_i16, n_0, n_31, n_add, n_sub, n_mul, n_neg, n_div, n_rem, n_le_t, n_le_f, n_lt_t, n_lt_f, n_eq_t, n_eq_f, n_cl, n_gd, n_gdt, n_nz, Int.reduceToNat, Int.reduceAdd, Int.reduceSub, Int.reduceMul, Int.reduceNeg, Int.reduceLT, Int.reduceLE, Int.reduceEq, Int.reduceDiv, Int.reduceMod, Nat.reduceAdd, Nat.reduceMul, ↓reduceIte, u_eq, u_no, u_nk, u_ek, u_2, u_3, j_1, j_3, j_eq, j_no, j_nk, lt_def, Option.bind_some, upto, List.any_cons, e1, e2, decide_false, Bool.not_false, Bool.and_false, Bool.false_or, bI_f, ih]
def thr (B : Brd) (G : Gam) (t c : Int) : Bool := isCr B c && (decide (sd B c = t) && (!tk G c && (mens B).any (fun m => !decide (sd B m = t) && go B G m (gx G c) (gy G c))))
/-- a crown of side t can be taken -/
def chk (B : Brd) (G : Gam) (t : Int) : Bool := (mens B).any (thr B G t)
theorem m_isCheck_L2 {B : Brd} {G : Gam} {s : ST} (h : MA B G s) {t : Int} (ht0 : 0 ≤ t) (ht1 : t ≤ 1) : ∀ (n F : Nat) (i : Int), 0 ≤ i → (n : Int) = bM B - i → n < F → f_X10_isCheck_L2 F (Int32.ofInt t) (Int32.ofInt i) s = some (bI ((upto n i).any (thr B G t)), s) := by
  intro n
  have hmm := m_manMany h
  have hM : bM B ≤ 8 := h.1.1.1.2.2.2.2.2.2.2.1; have hM0 : 0 ≤ bM B := h.1.1.1.2.2.2.2.2.2.1
  induction n with
  | zero =>
    intro F i h0 hn hF
    obtain ⟨F, rfl⟩ : ∃ F', F = F' + 1 := ⟨F - 1, by omega⟩
    simp (disch := omega) only [f_X10_isCheck_L2, hmm, n_i8, n_i16, n_0, n_31, n_add, n_sub, n_mul, n_neg, n_div, n_rem, n_le_t, n_le_f, n_lt_t, n_lt_f, n_eq_t, n_eq_f, n_cl, n_gd, n_gdt, n_nz, Int.reduceToNat, Int.reduceAdd, Int.reduceSub, Int.reduceMul, Int.reduceNeg, Int.reduceLT, Int.reduceLE, Int.reduceEq, Int.reduceDiv, Int.reduceMod, Nat.reduceAdd, Nat.reduceMul, ↓reduceIte, u_eq, u_no, u_nk, u_ek, u_2, u_3, j_1, j_3, j_eq, j_no, j_nk, lt_def, Option.bind_some, upto, List.any_nil, bI_f]
  | succ n ih =>
    intro F i h0 hn hF
    obtain ⟨F, rfl⟩ : ∃ F', F = F' + 1 := ⟨F - 1, by omega⟩
    have ih := ih F (i + 1) (by omega) (by omega) (by omega)
    have hcr : f_X10_isCrown (Int32.ofInt i) s = some (bI (isCr B i), s) := m_isCrown h h0 (show i < bM B by omega)
    have hv : f_X10_isTaken (Int32.ofInt i) s = some (bI (tk G i), s) := m_isTaken h h0 (show i < bM B by omega)
    have hs := m_sideOf h h0 (show i < bM B by omega)
    have hb := h.1.2.2.1 i h0 (by omega)
    simp only [upto, List.any_cons]
    cases e1 : isCr B i with
    | false =>
      have e : thr B G t i = false := by unfold thr; rw [e1]; rfl
      rw [e1] at hcr
      simp (disch := omega) only [f_X10_isCheck_L2, hmm, hcr, n_i8, n_i16, n_0, n_31, n_add, n_sub, n_mul, n_neg, n_div, n_rem, n_le_t, n_le_f, n_lt_t, n_lt_f, n_eq_t, n_eq_f, n_cl, n_gd, n_gdt, n_nz, Int.reduceToNat, Int.reduceAdd, Int.reduceSub, Int.reduceMul, Int.reduceNeg, Int.reduceLT, Int.reduceLE, Int.reduceEq, Int.reduceDiv, Int.reduceMod, Nat.reduceAdd, Nat.reduceMul, ↓reduceIte, u_eq, u_no, u_nk, u_ek, u_2, u_3, j_1, j_3, j_eq, j_no, j_nk, lt_def, Option.bind_some, e, Bool.false_or, bI_f, ih]
    | true =>
      rw [e1] at hcr
      by_cases e2 : sd B i = t
      · cases e3 : tk G i with
        | true =>
          have e : thr B G t i = false := by unfold thr; rw [e1, e3]; simp
          rw [e3] at hv
          simp (disch := omega) only [f_X10_isCheck_L2, hmm, hcr, hs, hv, n_i8, n_i16, n_0, n_31, n_add, n_sub, n_mul, n_neg, n_div, n_rem, n_le_t, n_le_f, n_lt_t, n_lt_f, n_eq_t, n_eq_f, n_cl, n_gd, n_gdt, n_nz, Int.reduceToNat, Int.reduceAdd, Int.reduceSub, Int.reduceMul, Int.reduceNeg, Int.reduceLT, Int.reduceLE, Int.reduceEq, Int.reduceDiv, Int.reduceMod, Nat.reduceAdd, Nat.reduceMul, ↓reduceIte, u_eq, u_no, u_nk, u_ek, u_2, u_3, j_1, j_3, j_eq, j_no, j_nk, lt_def, Option.bind_some, e, e2, Bool.false_or, bI_t, ih]
        | false =>
          have e : thr B G t i = (mens B).any (fun m => !decide (sd B m = t) && go B G m (gx G i) (gy G i)) := by unfold thr; rw [e1, e3, decide_eq_true e2]; simp
          rw [e3] at hv
          have hl := m_isCheck_L h ht0 ht1 h0 (show i < bM B by omega) (of_decide_eq_false e3) (f_X10_isCheck_L2 F) (bM B).toNat fuel 0 (by omega) (by omega) (by unfold fuel; omega)
          have hl : f_X10_isCheck_L40 (f_X10_isCheck_L2 F) fuel (Int32.ofInt t) (Int32.ofInt i) (Int32.ofInt 0) s = if thr B G t i = true then some (Int32.ofInt 1, s) else f_X10_isCheck_L2 F (Int32.ofInt t) (Int32.ofInt (i + 1)) s := by rw [e]; exact hl
          cases e4 : thr B G t i with
          | true =>
            rw [e4] at hl
            simp (disch := omega) only [f_X10_isCheck_L2, hmm, hcr, hs, hv, n_i8, n_i16, n_0, n_31, n_add, n_sub, n_mul, n_neg, n_div, n_rem, n_le_t, n_le_f, n_lt_t, n_lt_f, n_eq_t, n_eq_f, n_cl, n_gd, n_gdt, n_nz, Int.reduceToNat, Int.reduceAdd, Int.reduceSub, Int.reduceMul, Int.reduceNeg, Int.reduceLT, Int.reduceLE, Int.reduceEq, Int.reduceDiv, Int.reduceMod, Nat.reduceAdd, Nat.reduceMul, ↓reduceIte, u_eq, u_no, u_nk, u_ek, u_2, u_3, j_1, j_3, j_eq, j_no, j_nk, lt_def, Option.bind_some, e2, hl, Bool.true_or, bI_t, bI_f]
          | false =>
            rw [e4] at hl
            simp (disch := omega) only [f_X10_isCheck_L2, hmm, hcr, hs, hv, n_i8, n_i16, n_0, n_31, n_add, n_sub, n_mul, n_neg, n_div, n_rem, n_le_t, n_le_f, n_lt_t, n_lt_f, n_eq_t, n_eq_f, n_cl, n_gd, n_gdt, n_nz, Int.reduceToNat, Int.reduceAdd, Int.reduceSub, Int.reduceMul, Int.reduceNeg, Int.reduceLT, Int.reduceLE, Int.reduceEq, Int.reduceDiv, Int.reduceMod, Nat.reduceAdd, Nat.reduceMul, ↓reduceIte, u_eq, u_no, u_nk, u_ek, u_2, u_3, j_1, j_3, j_eq, j_no, j_nk, lt_def, Option.bind_some, e2, hl, Bool.false_or, bI_t, bI_f, Bool.false_eq_true, ih]
      · have e : thr B G t i = false := by unfold thr; rw [e1, decide_eq_false e2]; rfl
        simp (disch := omega) only [f_X10_isCheck_L2, hmm, hcr, hs, n_i8, n_i16, n_0, n_31, n_add, n_sub, n_mul, n_neg, n_div, n_rem, n_le_t, n_le_f, n_lt_t, n_lt_f, n_eq_t, n_eq_f, n_cl, n_gd, n_gdt, n_nz, Int.reduceToNat, Int.reduceAdd, Int.reduceSub, Int.reduceMul, Int.reduceNeg, Int.reduceLT, Int.reduceLE, Int.reduceEq, Int.reduceDiv, Int.reduceMod, Nat.reduceAdd, Nat.reduceMul, ↓reduceIte, u_eq, u_no, u_nk, u_ek, u_2, u_3, j_1, j_3, j_eq, j_no, j_nk, lt_def, Option.bind_some, e, e2, Bool.false_or, bI_t, ih]
theorem m_isCheck {B : Brd} {G : Gam} {s : ST} (h : MA B G s) {t : Int} (ht0 : 0 ≤ t) (ht1 : t ≤ 1) : f_X10_isCheck (Int32.ofInt t) s = some (bI (chk B G t), s) := by
  have hM : bM B ≤ 8 := h.1.1.1.2.2.2.2.2.2.2.1; have hM0 : 0 ≤ bM B := h.1.1.1.2.2.2.2.2.2.1
  exact m_isCheck_L2 h ht0 ht1 (bM B).toNat fuel 0 (by omega) (by omega) (by unfold fuel; omega)
def brn (B : Brd) (G : Gam) : Int := smL (gb G) (upto (bF B).toNat 0)
theorem m_bearAll_L {B : Brd} {G : Gam} {s : ST} (h : MA B G s) : ∀ (n F : Nat) (i a : Int), 0 ≤ i → (n : Int) = bF B - i → n < F → f_X10_bearAll_L4 F (Int32.ofInt a) (Int32.ofInt i) s = some (Int32.ofInt (a + smL (gb G) (upto n i)), s) := by
  intro n
  have hmm := m_fieldMany h
  have hF1 : bF B ≤ 6 := h.1.1.1.2.2.2.2.2.2.2.2.2
  induction n with
  | zero =>
    intro F i a h0 hn hF
    obtain ⟨F, rfl⟩ : ∃ F', F = F' + 1 := ⟨F - 1, by omega⟩
    simp (disch := omega) only [f_X10_bearAll_L4, hmm, n_i8, n_i16, n_0, n_31, n_add, n_sub, n_mul, n_neg, n_div, n_rem, n_le_t, n_le_f, n_lt_t, n_lt_f, n_eq_t, n_eq_f, n_cl, n_gd, n_gdt, n_nz, Int.reduceToNat, Int.reduceAdd, Int.reduceSub, Int.reduceMul, Int.reduceNeg, Int.reduceLT, Int.reduceLE, Int.reduceEq, Int.reduceDiv, Int.reduceMod, Nat.reduceAdd, Nat.reduceMul, ↓reduceIte, u_eq, u_no, u_nk, u_ek, u_2, u_3, j_1, j_3, j_eq, j_no, j_nk, lt_def, Option.bind_some, upto, smL, Int.add_zero]
  | succ n ih =>
    intro F i a h0 hn hF
    obtain ⟨F, rfl⟩ : ∃ F', F = F' + 1 := ⟨F - 1, by omega⟩
    have ih := ih F (i + 1) (a + gb G i) (by omega) (by omega) (by omega)
    have hv := h.2.2.2.2.2 i h0 (by omega)
    simp (disch := omega) only [f_X10_bearAll_L4, hmm, hv, n_i8, n_i16, n_0, n_31, n_add, n_sub, n_mul, n_neg, n_div, n_rem, n_le_t, n_le_f, n_lt_t, n_lt_f, n_eq_t, n_eq_f, n_cl, n_gd, n_gdt, n_nz, Int.reduceToNat, Int.reduceAdd, Int.reduceSub, Int.reduceMul, Int.reduceNeg, Int.reduceLT, Int.reduceLE, Int.reduceEq, Int.reduceDiv, Int.reduceMod, Nat.reduceAdd, Nat.reduceMul, ↓reduceIte, u_eq, u_no, u_nk, u_ek, u_2, u_3, j_1, j_3, j_eq, j_no, j_nk, lt_def, Option.bind_some, upto, smL, ih, Int.add_assoc]
theorem m_bearAll {B : Brd} {G : Gam} {s : ST} (h : MA B G s) : f_X10_bearAll s = some (Int32.ofInt (brn B G), s) := by
  have hF1 : bF B ≤ 6 := h.1.1.1.2.2.2.2.2.2.2.2.2
  have hF0 : 0 ≤ bF B := h.1.1.1.2.2.2.2.2.2.2.2.1
  have := m_bearAll_L h (bF B).toNat fuel 0 0 (by omega) (by omega) (by unfold fuel; omega)
  rw [Int.zero_add] at this
  exact this
def out1 (B : Brd) (G : Gam) (t m : Int) : Int := if gx G m = -1 then 0 else if sd B m = t then 1 else 0
def nOut (B : Brd) (G : Gam) (t : Int) : Int := smL (out1 B G t) (mens B)
theorem m_menOf_L {B : Brd} {G : Gam} {s : ST} (h : MA B G s) {t : Int} (ht0 : 0 ≤ t) (ht1 : t ≤ 1) : ∀ (n F : Nat) (i a : Int), 0 ≤ i → (n : Int) = bM B - i → n < F → f_X10_menOf_L4 F (Int32.ofInt t) (Int32.ofInt a) (Int32.ofInt i) s = some (Int32.ofInt (a + smL (out1 B G t) (upto n i)), s) := by
  intro n
  have hmm := m_manMany h
  have hM : bM B ≤ 8 := h.1.1.1.2.2.2.2.2.2.2.1; have hM0 : 0 ≤ bM B := h.1.1.1.2.2.2.2.2.2.1
  induction n with
  | zero =>
    intro F i a h0 hn hF
    obtain ⟨F, rfl⟩ : ∃ F', F = F' + 1 := ⟨F - 1, by omega⟩
    simp (disch := omega) only [f_X10_menOf_L4, hmm, n_i8, n_i16, n_0, n_31, n_add, n_sub, n_mul, n_neg, n_div, n_rem, n_le_t, n_le_f, n_lt_t, n_lt_f, n_eq_t, n_eq_f, n_cl, n_gd, n_gdt, n_nz, Int.reduceToNat, Int.reduceAdd, Int.reduceSub, Int.reduceMul, Int.reduceNeg, Int.reduceLT, Int.reduceLE, Int.reduceEq, Int.reduceDiv, Int.reduceMod, Nat.reduceAdd, Nat.reduceMul, ↓reduceIte, u_eq, u_no, u_nk, u_ek, u_2, u_3, j_1, j_3, j_eq, j_no, j_nk, lt_def, Option.bind_some, upto, smL, Int.add_zero]
  | succ n ih =>
    intro F i a h0 hn hF
    obtain ⟨F, rfl⟩ : ∃ F', F = F' + 1 := ⟨F - 1, by omega⟩
    have hs := m_sideOf h h0 (show i < bM B by omega)
    have hv := m_isTaken h h0 (show i < bM B by omega)
    have hb := h.1.2.2.1 i h0 (by omega)
    by_cases e1 : gx G i = -1
    · have ih := ih F (i + 1) a (by omega) (by omega) (by omega)
      have hz : out1 B G t i = 0 := by unfold out1; rw [if_pos e1]
      simp (disch := omega) only [f_X10_menOf_L4, hmm, hv, n_i8, n_i16, n_0, n_31, n_add, n_sub, n_mul, n_neg, n_div, n_rem, n_le_t, n_le_f, n_lt_t, n_lt_f, n_eq_t, n_eq_f, n_cl, n_gd, n_gdt, n_nz, Int.reduceToNat, Int.reduceAdd, Int.reduceSub, Int.reduceMul, Int.reduceNeg, Int.reduceLT, Int.reduceLE, Int.reduceEq, Int.reduceDiv, Int.reduceMod, Nat.reduceAdd, Nat.reduceMul, ↓reduceIte, u_eq, u_no, u_nk, u_ek, u_2, u_3, j_1, j_3, j_eq, j_no, j_nk, lt_def, Option.bind_some, upto, smL, hz, e1, decide_true, bI_t, ih, Int.zero_add]
    · by_cases e2 : sd B i = t
      · have ih := ih F (i + 1) (a + 1) (by omega) (by omega) (by omega)
        have hz : out1 B G t i = 1 := by unfold out1; rw [if_neg e1, if_pos e2]
        simp (disch := omega) only [f_X10_menOf_L4, hmm, hv, hs, n_i8, n_i16, n_0, n_31, n_add, n_sub, n_mul, n_neg, n_div, n_rem, n_le_t, n_le_f, n_lt_t, n_lt_f, n_eq_t, n_eq_f, n_cl, n_gd, n_gdt, n_nz, Int.reduceToNat, Int.reduceAdd, Int.reduceSub, Int.reduceMul, Int.reduceNeg, Int.reduceLT, Int.reduceLE, Int.reduceEq, Int.reduceDiv, Int.reduceMod, Nat.reduceAdd, Nat.reduceMul, ↓reduceIte, u_eq, u_no, u_nk, u_ek, u_2, u_3, j_1, j_3, j_eq, j_no, j_nk, lt_def, Option.bind_some, upto, smL, hz, e1, e2, decide_false, bI_f, ih, Int.add_assoc]
      · have ih := ih F (i + 1) a (by omega) (by omega) (by omega)
        have hz : out1 B G t i = 0 := by unfold out1; rw [if_neg e1, if_neg e2]
        simp (disch := omega) only [f_X10_menOf_L4, hmm, hv, hs, n_i8, n_i16, n_0, n_31, n_add, n_sub, n_mul, n_neg, n_div, n_rem, n_le_t, n_le_f, n_lt_t, n_lt_f, n_eq_t, n_eq_f, n_cl, n_gd, n_gdt, n_nz, Int.reduceToNat, Int.reduceAdd, Int.reduceSub, Int.reduceMul, Int.reduceNeg, Int.reduceLT, Int.reduceLE, Int.reduceEq, Int.reduceDiv, Int.reduceMod, Nat.reduceAdd, Nat.reduceMul, ↓reduceIte, u_eq, u_no, u_nk, u_ek, u_2, u_3, j_1, j_3, j_eq, j_no, j_nk, lt_def, Option.bind_some, upto, smL, hz, e1, e2, decide_false, bI_f, ih, Int.zero_add]
theorem m_menOf {B : Brd} {G : Gam} {s : ST} (h : MA B G s) {t : Int} (ht0 : 0 ≤ t) (ht1 : t ≤ 1) : f_X10_menOf (Int32.ofInt t) s = some (Int32.ofInt (nOut B G t), s) := by
  have hM : bM B ≤ 8 := h.1.1.1.2.2.2.2.2.2.2.1; have hM0 : 0 ≤ bM B := h.1.1.1.2.2.2.2.2.2.1
  have := m_menOf_L h ht0 ht1 (bM B).toNat fuel 0 0 (by omega) (by omega) (by unfold fuel; omega)
  rw [Int.zero_add] at this
  exact this
