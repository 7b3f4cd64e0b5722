/-! L3: the class looks ahead -/
theorem c_ahead {B : Brd} {G : Gam} {brd : Bool} {p : Nat} {s : ST} (h : CQ B G brd p s) {n : Int} (hb : brd = true) (n0 : 0 ≤ n) (n1 : n ≤ 20) (hd : gd_ G + n ≤ 999) : ∃ s1 s2, f_X3_copy 46 36 s = some s1 ∧ f_X3_passDays 46 (Int32.ofInt n) s1 = some s2 ∧ GT B (daysN B (-1) 0 n.toNat G) 46 p s2 ∧ CQ B G brd p s2 ∧ XF s s2 := by
  have hBd := (h.2.2.1 hb).1
  obtain ⟨s1, a1, a2, a3, a4, a5, a6⟩ := c_copy h.1.1 h.2.1.2 h.1.2.1 h.1.2.2.1
  obtain ⟨s2, b1, b2, b3, b4⟩ := c_days h.1.2.2.2 hBd (ds := -1) (db := 0) (Or.inl rfl) a2 a3 a4 n0 (by omega) hd
  have hx : XF s s2 := ⟨fun a k x y => (b4.1 a k (by omega)).trans (a5 a k (by omega)), b4.2.2.trans a6⟩
  exact ⟨s1, s2, a1, b1, b2, CQ_tr h (fun a k x y z => (b4.1 a k (by omega)).trans (a5 a k (by omega))) hx.2, hx⟩
theorem c_later {B : Brd} {G : Gam} {brd : Bool} {p : Nat} {s : ST} (h : CQ B G brd p s) {n w : Int} (n1 : -2147483648 ≤ n) (n2 : n ≤ 2147483647) (w1 : -2147483648 ≤ w) (w2 : w ≤ 2147483647) : (ahd G brd n 0 20 ∧ (0 ≤ w ∧ w ≤ 3) → ∃ s', f_X9_later (Int32.ofInt n) (Int32.ofInt w) s = some (Int32.ofInt (aLater B (daysN B (-1) 0 n.toNat G) w), s') ∧ CQ B G brd p s' ∧ XF s s') ∧ (¬ (ahd G brd n 0 20 ∧ (0 ≤ w ∧ w ≤ 3)) → f_X9_later (Int32.ofInt n) (Int32.ofInt w) s = some (Int32.ofInt (-1), s)) := by
  have hc := c_canCome h n1 n2 (a := 0) (b := 20) (by omega) (by omega) (by omega) (by omega)
  constructor
  · rintro ⟨ha, hw⟩
    have hc := hc.1 ha
    obtain ⟨s1, s2, a1, a2, a3, a4, a5⟩ := c_ahead h ha.1 ha.2.1.1 ha.2.1.2 ha.2.2
    refine ⟨s2, ?_, a4, a5⟩
    obtain ⟨g1, g2, g3⟩ := a3
    have m0 := c_menOf g1 (t := 0) (by omega) (by omega)
    have m1 := c_menOf g1 (t := 1) (by omega) (by omega)
    have mb := c_borne g1 g3
    have mo := c_isOver g1 g2
    have : w = 0 ∨ w = 1 ∨ w = 2 ∨ w = 3 := by omega
    rcases this with rfl | rfl | rfl | rfl
    · simp (disch := omega) only [f_X9_later, aLater, hc, a1, a2, m0, n_i8, n_i16, n_0, n_31, n_add, n_sub, n_mul, n_neg, n_div, n_rem, n_le_t, n_le_f, n_lt_t, n_lt_f, n_eq_t, n_eq_f, n_cl, n_gd, n_gdt, n_nz, Int.reduceToNat, Int.reduceAdd, Int.reduceSub, Int.reduceMul, Int.reduceNeg, Int.reduceLT, Int.reduceLE, Int.reduceEq, Int.reduceDiv, Int.reduceMod, Nat.reduceAdd, Nat.reduceMul, ↓reduceIte, u_eq, u_no, u_nk, u_ek, u_2, u_3, j_1, j_3, j_eq, j_no, j_nk, ltd, bnd, n_l1, n_l2, n_l3, n_l4, n_l5, n_l6, n_l7, n_l8, n_l9, n_l10, n_l11, n_l12, n_l13, n_l14, n_l15, n_l16, n_l17, n_l18, n_l19, n_l20, n_l21, n_l22, n_l23, n_l24, n_l25, n_l26, n_l27, n_l28, n_l29, n_l30, n_l31, n_l32, n_l33, n_l34, n_l35, n_l36, n_l37, n_l38, n_l39, n_l40, n_l41, n_l42, n_l43, n_l44, n_l45, n_l46, n_l47, n_l48, n_l49, n_l50, n_l51, n_l52, n_l53, n_l54, n_l55, n_l56, n_l57, n_l58, n_l59, n_l60]
    · simp (disch := omega) only [f_X9_later, aLater, hc, a1, a2, m1, n_i8, n_i16, n_0, n_31, n_add, n_sub, n_mul, n_neg, n_div, n_rem, n_le_t, n_le_f, n_lt_t, n_lt_f, n_eq_t, n_eq_f, n_cl, n_gd, n_gdt, n_nz, Int.reduceToNat, Int.reduceAdd, Int.reduceSub, Int.reduceMul, Int.reduceNeg, Int.reduceLT, Int.reduceLE, Int.reduceEq, Int.reduceDiv, Int.reduceMod, Nat.reduceAdd, Nat.reduceMul, ↓reduceIte, u_eq, u_no, u_nk, u_ek, u_2, u_3, j_1, j_3, j_eq, j_no, j_nk, ltd, bnd, n_l1, n_l2, n_l3, n_l4, n_l5, n_l6, n_l7, n_l8, n_l9, n_l10, n_l11, n_l12, n_l13, n_l14, n_l15, n_l16, n_l17, n_l18, n_l19, n_l20, n_l21, n_l22, n_l23, n_l24, n_l25, n_l26, n_l27, n_l28, n_l29, n_l30, n_l31, n_l32, n_l33, n_l34, n_l35, n_l36, n_l37, n_l38, n_l39, n_l40, n_l41, n_l42, n_l43, n_l44, n_l45, n_l46, n_l47, n_l48, n_l49, n_l50, n_l51, n_l52, n_l53, n_l54, n_l55, n_l56, n_l57, n_l58, n_l59, n_l60]
    · simp (disch := omega) only [f_X9_later, aLater, hc, a1, a2, mb, n_i8, n_i16, n_0, n_31, n_add, n_sub, n_mul, n_neg, n_div, n_rem, n_le_t, n_le_f, n_lt_t, n_lt_f, n_eq_t, n_eq_f, n_cl, n_gd, n_gdt, n_nz, Int.reduceToNat, Int.reduceAdd, Int.reduceSub, Int.reduceMul, Int.reduceNeg, Int.reduceLT, Int.reduceLE, Int.reduceEq, Int.reduceDiv, Int.reduceMod, Nat.reduceAdd, Nat.reduceMul, ↓reduceIte, u_eq, u_no, u_nk, u_ek, u_2, u_3, j_1, j_3, j_eq, j_no, j_nk, ltd, bnd, n_l1, n_l2, n_l3, n_l4, n_l5, n_l6, n_l7, n_l8, n_l9, n_l10, n_l11, n_l12, n_l13, n_l14, n_l15, n_l16, n_l17, n_l18, n_l19, n_l20, n_l21, n_l22, n_l23, n_l24, n_l25, n_l26, n_l27, n_l28, n_l29, n_l30, n_l31, n_l32, n_l33, n_l34, n_l35, n_l36, n_l37, n_l38, n_l39, n_l40, n_l41, n_l42, n_l43, n_l44, n_l45, n_l46, n_l47, n_l48, n_l49, n_l50, n_l51, n_l52, n_l53, n_l54, n_l55, n_l56, n_l57, n_l58, n_l59, n_l60]
    · cases e : ovr B (daysN B (-1) 0 n.toNat G) with
      | true => rw [e] at mo; simp (disch := omega) only [f_X9_later, aLater, hc, a1, a2, mo, e, bI_t, b1, n_i8, n_i16, n_0, n_31, n_add, n_sub, n_mul, n_neg, n_div, n_rem, n_le_t, n_le_f, n_lt_t, n_lt_f, n_eq_t, n_eq_f, n_cl, n_gd, n_gdt, n_nz, Int.reduceToNat, Int.reduceAdd, Int.reduceSub, Int.reduceMul, Int.reduceNeg, Int.reduceLT, Int.reduceLE, Int.reduceEq, Int.reduceDiv, Int.reduceMod, Nat.reduceAdd, Nat.reduceMul, ↓reduceIte, u_eq, u_no, u_nk, u_ek, u_2, u_3, j_1, j_3, j_eq, j_no, j_nk, ltd, bnd, n_l1, n_l2, n_l3, n_l4, n_l5, n_l6, n_l7, n_l8, n_l9, n_l10, n_l11, n_l12, n_l13, n_l14, n_l15, n_l16, n_l17, n_l18, n_l19, n_l20, n_l21, n_l22, n_l23, n_l24, n_l25, n_l26, n_l27, n_l28, n_l29, n_l30, n_l31, n_l32, n_l33, n_l34, n_l35, n_l36, n_l37, n_l38, n_l39, n_l40, n_l41, n_l42, n_l43, n_l44, n_l45, n_l46, n_l47, n_l48, n_l49, n_l50, n_l51, n_l52, n_l53, n_l54, n_l55, n_l56, n_l57, n_l58, n_l59, n_l60]
      | false => rw [e] at mo; simp (disch := omega) only [f_X9_later, aLater, hc, a1, a2, mo, e, bI_f, b1, Bool.false_eq_true, n_i8, n_i16, n_0, n_31, n_add, n_sub, n_mul, n_neg, n_div, n_rem, n_le_t, n_le_f, n_lt_t, n_lt_f, n_eq_t, n_eq_f, n_cl, n_gd, n_gdt, n_nz, Int.reduceToNat, Int.reduceAdd, Int.reduceSub, Int.reduceMul, Int.reduceNeg, Int.reduceLT, Int.reduceLE, Int.reduceEq, Int.reduceDiv, Int.reduceMod, Nat.reduceAdd, Nat.reduceMul, ↓reduceIte, u_eq, u_no, u_nk, u_ek, u_2, u_3, j_1, j_3, j_eq, j_no, j_nk, ltd, bnd, n_l1, n_l2, n_l3, n_l4, n_l5, n_l6, n_l7, n_l8, n_l9, n_l10, n_l11, n_l12, n_l13, n_l14, n_l15, n_l16, n_l17, n_l18, n_l19, n_l20, n_l21, n_l22, n_l23, n_l24, n_l25, n_l26, n_l27, n_l28, n_l29, n_l30, n_l31, n_l32, n_l33, n_l34, n_l35, n_l36, n_l37, n_l38, n_l39, n_l40, n_l41, n_l42, n_l43, n_l44, n_l45, n_l46, n_l47, n_l48, n_l49, n_l50, n_l51, n_l52, n_l53, n_l54, n_l55, n_l56, n_l57, n_l58, n_l59, n_l60]
  · intro hn
    by_cases e1 : w < 0
    · simp (disch := omega) only [f_X9_later, n_i8, n_i16, n_0, n_31, n_add, n_sub, n_mul, n_neg, n_div, n_rem, n_le_t, n_le_f, n_lt_t, n_lt_f, n_eq_t, n_eq_f, n_cl, n_gd, n_gdt, n_nz, Int.reduceToNat, Int.reduceAdd, Int.reduceSub, Int.reduceMul, Int.reduceNeg, Int.reduceLT, Int.reduceLE, Int.reduceEq, Int.reduceDiv, Int.reduceMod, Nat.reduceAdd, Nat.reduceMul, ↓reduceIte, u_eq, u_no, u_nk, u_ek, u_2, u_3, j_1, j_3, j_eq, j_no, j_nk, ltd, bnd]
    by_cases e2 : 3 < w
    · simp (disch := omega) only [f_X9_later, n_i8, n_i16, n_0, n_31, n_add, n_sub, n_mul, n_neg, n_div, n_rem, n_le_t, n_le_f, n_lt_t, n_lt_f, n_eq_t, n_eq_f, n_cl, n_gd, n_gdt, n_nz, Int.reduceToNat, Int.reduceAdd, Int.reduceSub, Int.reduceMul, Int.reduceNeg, Int.reduceLT, Int.reduceLE, Int.reduceEq, Int.reduceDiv, Int.reduceMod, Nat.reduceAdd, Nat.reduceMul, ↓reduceIte, u_eq, u_no, u_nk, u_ek, u_2, u_3, j_1, j_3, j_eq, j_no, j_nk, ltd, bnd]
    · have hc := hc.2 (fun ha => hn ⟨ha, by omega⟩)
      simp (disch := omega) only [f_X9_later, hc, n_i8, n_i16, n_0, n_31, n_add, n_sub, n_mul, n_neg, n_div, n_rem, n_le_t, n_le_f, n_lt_t, n_lt_f, n_eq_t, n_eq_f, n_cl, n_gd, n_gdt, n_nz, Int.reduceToNat, Int.reduceAdd, Int.reduceSub, Int.reduceMul, Int.reduceNeg, Int.reduceLT, Int.reduceLE, Int.reduceEq, Int.reduceDiv, Int.reduceMod, Nat.reduceAdd, Nat.reduceMul, ↓reduceIte, u_eq, u_no, u_nk, u_ek, u_2, u_3, j_1, j_3, j_eq, j_no, j_nk, ltd, bnd]
theorem c_crop {B : Brd} {G : Gam} {brd : Bool} {p : Nat} {s : ST} (h : CQ B G brd p s) {f n : Int} (f1 : -2147483648 ≤ f) (f2 : f ≤ 2147483647) (n1 : -2147483648 ≤ n) (n2 : n ≤ 2147483647) : ((0 ≤ f ∧ f < bF B) ∧ ahd G brd n 0 20 → ∃ s', f_X9_crop (Int32.ofInt f) (Int32.ofInt n) s = some (Int32.ofInt (gb (daysN B (-1) 0 n.toNat G) f), s') ∧ CQ B G brd p s' ∧ XF s s') ∧ (¬ ((0 ≤ f ∧ f < bF B) ∧ ahd G brd n 0 20) → f_X9_crop (Int32.ofInt f) (Int32.ofInt n) s = some (Int32.ofInt (-1), s)) := by
  have hc := c_canCome h n1 n2 (a := 0) (b := 20) (by omega) (by omega) (by omega) (by omega)
  have hi := c_isField h f1 f2
  have hF6 : bF B ≤ 6 := h.1.1.1.1.1.1.1.2.2.2.2.2.2.2.2.2
  constructor
  · rintro ⟨hf, ha⟩
    have hc := hc.1 ha
    rw [decide_eq_true hf] at hi
    obtain ⟨s1, s2, a1, a2, a3, a4, a5⟩ := c_ahead h ha.1 ha.2.1.1 ha.2.1.2 ha.2.2
    refine ⟨s2, ?_, a4, a5⟩
    have hb : s2.1 49 f.toNat = Int32.ofInt (gb (daysN B (-1) 0 n.toNat G) f) := a3.2.2 f hf.1 hf.2
    simp (disch := omega) only [f_X9_crop, hi, hc, a1, a2, hb, bI_t, n_i8, n_i16, n_0, n_31, n_add, n_sub, n_mul, n_neg, n_div, n_rem, n_le_t, n_le_f, n_lt_t, n_lt_f, n_eq_t, n_eq_f, n_cl, n_gd, n_gdt, n_nz, Int.reduceToNat, Int.reduceAdd, Int.reduceSub, Int.reduceMul, Int.reduceNeg, Int.reduceLT, Int.reduceLE, Int.reduceEq, Int.reduceDiv, Int.reduceMod, Nat.reduceAdd, Nat.reduceMul, ↓reduceIte, u_eq, u_no, u_nk, u_ek, u_2, u_3, j_1, j_3, j_eq, j_no, j_nk, ltd, bnd]
  · intro hn
    by_cases hf : 0 ≤ f ∧ f < bF B
    · rw [decide_eq_true hf] at hi
      have hc := hc.2 (fun ha => hn ⟨hf, ha⟩)
      simp (disch := omega) only [f_X9_crop, hi, hc, bI_t, n_i8, n_i16, n_0, n_31, n_add, n_sub, n_mul, n_neg, n_div, n_rem, n_le_t, n_le_f, n_lt_t, n_lt_f, n_eq_t, n_eq_f, n_cl, n_gd, n_gdt, n_nz, Int.reduceToNat, Int.reduceAdd, Int.reduceSub, Int.reduceMul, Int.reduceNeg, Int.reduceLT, Int.reduceLE, Int.reduceEq, Int.reduceDiv, Int.reduceMod, Nat.reduceAdd, Nat.reduceMul, ↓reduceIte, u_eq, u_no, u_nk, u_ek, u_2, u_3, j_1, j_3, j_eq, j_no, j_nk, ltd, bnd]
    · rw [decide_eq_false hf] at hi
      simp (disch := omega) only [f_X9_crop, hi, bI_f, n_i8, n_i16, n_0, n_31, n_add, n_sub, n_mul, n_neg, n_div, n_rem, n_le_t, n_le_f, n_lt_t, n_lt_f, n_eq_t, n_eq_f, n_cl, n_gd, n_gdt, n_nz, Int.reduceToNat, Int.reduceAdd, Int.reduceSub, Int.reduceMul, Int.reduceNeg, Int.reduceLT, Int.reduceLE, Int.reduceEq, Int.reduceDiv, Int.reduceMod, Nat.reduceAdd, Nat.reduceMul, ↓reduceIte, u_eq, u_no, u_nk, u_ek, u_2, u_3, j_1, j_3, j_eq, j_no, j_nk, ltd, bnd]
theorem brn_bb {B : Brd} (hB : Bv B) {G : Gam} (hG : Gv B G) : 0 ≤ brn B G ∧ brn B G ≤ 6000 := by
  have hF6 : bF B ≤ 6 := hB.1.1.2.2.2.2.2.2.2.2.2
  have key : ∀ (n : Nat) (i : Int), 0 ≤ i → i + n ≤ bF B → 0 ≤ smL (gb G) (upto n i) ∧ smL (gb G) (upto n i) ≤ 999 * n := by
    intro n
    induction n with
    | zero => intro i _ _; simp only [upto, smL]; omega
    | succ n ih =>
      intro i i0 i1
      have a := ih (i + 1) (by omega) (by omega)
      have b := hG.2.2.2 i i0 (by omega)
      simp only [upto, smL]
      omega
  by_cases e : 0 ≤ bF B
  · have := key (bF B).toNat 0 (by omega) (by omega)
    unfold brn
    omega
  · unfold brn
    rw [show (bF B).toNat = 0 by omega]
    simp only [upto, smL]
    omega
theorem c_deeper {B : Brd} {G : Gam} {brd : Bool} {p : Nat} {s : ST} (h : CQ B G brd p s) {t d n : Int} (t1 : -2147483648 ≤ t) (t2 : t ≤ 2147483647) (d1 : -2147483648 ≤ d) (d2 : d ≤ 2147483647) (n1 : -2147483648 ≤ n) (n2 : n ≤ 2147483647) : ((0 ≤ t ∧ t ≤ 1) ∧ (1 ≤ d ∧ d ≤ 2) ∧ ahd G brd n 0 20 → ∃ s', f_X9_deeper (Int32.ofInt t) (Int32.ofInt d) (Int32.ofInt n) s = some (Int64.ofInt (brn B (daysN B t d n.toNat G) - brn B (daysN B (-1) 0 n.toNat G)), s') ∧ CQ B G brd p s' ∧ XF s s') ∧ (¬ ((0 ≤ t ∧ t ≤ 1) ∧ (1 ≤ d ∧ d ≤ 2) ∧ ahd G brd n 0 20) → f_X9_deeper (Int32.ofInt t) (Int32.ofInt d) (Int32.ofInt n) s = some (Int64.ofInt (-1000000000000000), s)) := by
  have hc := c_canCome h n1 n2 (a := 0) (b := 20) (by omega) (by omega) (by omega) (by omega)
  have hi := c_isSide t1 t2 s
  constructor
  · rintro ⟨ht, hd, ha⟩
    have hc := hc.1 ha
    rw [decide_eq_true ht] at hi
    have hBd := (h.2.2.1 ha.1).1
    have hnn := ha.2.1
    obtain ⟨s1, s2, a1, a2, a3, a4, a5⟩ := c_ahead h ha.1 ha.2.1.1 ha.2.1.2 ha.2.2
    have mb := c_borne a3.1 a3.2.2
    obtain ⟨s3, b1, b2, b3, b4, b5, b6⟩ := c_copy a4.1.1 a4.2.1.2 a4.1.2.1 a4.1.2.2.1
    have hg : GT B G 46 p (uI s3 47 t.toNat (Int32.ofInt d)) := by
      obtain ⟨x, y, z⟩ := b2
      have hp := x.2.1.2
      exact ⟨GA_fr x rfl (fun a k x0 x1 => u_no (by omega)) (fun k => ⟨u_no (by omega), u_no (by omega), u_no (by omega)⟩) (u_no (by omega)) (u_no (by omega)), by unfold GS; rw [u_no (by omega)]; exact y, fun f f0 f1 => by rw [u_no (by omega)]; exact z f f0 f1⟩
    have hD : DP B t d 46 (uI s3 47 t.toNat (Int32.ofInt d)) := by
      obtain ⟨x, y⟩ := b4
      have x : s3.1 47 0 = Int32.ofInt (dpt B (-1) 0 0) := x
      have y : s3.1 47 1 = Int32.ofInt (dpt B (-1) 0 1) := y
      have e : t = 0 ∨ t = 1 := by omega
      rcases e with rfl | rfl
      · exact ⟨by show (uI s3 47 0 (Int32.ofInt d)).1 47 0 = Int32.ofInt d; rw [u_eq], by show (uI s3 47 0 (Int32.ofInt d)).1 47 1 = _; rw [u_nk (by omega)]; exact y⟩
      · exact ⟨by show (uI s3 47 1 (Int32.ofInt d)).1 47 0 = _; rw [u_nk (by omega)]; exact x, by show (uI s3 47 1 (Int32.ofInt d)).1 47 1 = Int32.ofInt d; rw [u_eq]⟩
    obtain ⟨s4, c1, c2, c3, c4⟩ := c_days h.1.2.2.2 hBd (ds := t) (db := d) (Or.inr hd) hg (by rw [u_no (by omega)]; exact b3) hD ha.2.1.1 (by omega) ha.2.2
    have mb2 := c_borne c2.1 c2.2.2
    have hb1 := brn_bb a3.1.1.1 a3.1.1.2
    have hb2 := brn_bb c2.1.1.1 c2.1.1.2
    have hf : ∀ a k : Nat, ¬ (46 ≤ a ∧ a ≤ 55) → s4.1 a k = s2.1 a k := fun a k x => by rw [c4.1 a k (by omega), u_no (by omega), b5 a k (by omega)]
    have h2 : s4.2 = s2.2 := c4.2.2.trans b6
    refine ⟨s4, ?_, CQ_tr a4 (fun a k x _ _ => hf a k x) h2, a5.tr ⟨fun a k x y => hf a k (by omega), h2⟩⟩
    simp (disch := omega) only [f_X9_deeper, hi, hc, a1, a2, mb, b1, c1, mb2, bI_t, l_i, n_i8, n_i16, n_0, n_31, n_add, n_sub, n_mul, n_neg, n_div, n_rem, n_le_t, n_le_f, n_lt_t, n_lt_f, n_eq_t, n_eq_f, n_cl, n_gd, n_gdt, n_nz, Int.reduceToNat, Int.reduceAdd, Int.reduceSub, Int.reduceMul, Int.reduceNeg, Int.reduceLT, Int.reduceLE, Int.reduceEq, Int.reduceDiv, Int.reduceMod, Nat.reduceAdd, Nat.reduceMul, ↓reduceIte, u_eq, u_no, u_nk, u_ek, u_2, u_3, j_1, j_3, j_eq, j_no, j_nk, ltd, bnd]
  · intro hn
    by_cases ht : 0 ≤ t ∧ t ≤ 1
    · rw [decide_eq_true ht] at hi
      by_cases e1 : d < 1
      · simp (disch := omega) only [f_X9_deeper, hi, bI_t, n_i8, n_i16, n_0, n_31, n_add, n_sub, n_mul, n_neg, n_div, n_rem, n_le_t, n_le_f, n_lt_t, n_lt_f, n_eq_t, n_eq_f, n_cl, n_gd, n_gdt, n_nz, Int.reduceToNat, Int.reduceAdd, Int.reduceSub, Int.reduceMul, Int.reduceNeg, Int.reduceLT, Int.reduceLE, Int.reduceEq, Int.reduceDiv, Int.reduceMod, Nat.reduceAdd, Nat.reduceMul, ↓reduceIte, u_eq, u_no, u_nk, u_ek, u_2, u_3, j_1, j_3, j_eq, j_no, j_nk, ltd, bnd]
      by_cases e2 : 2 < d
      · simp (disch := omega) only [f_X9_deeper, hi, bI_t, n_i8, n_i16, n_0, n_31, n_add, n_sub, n_mul, n_neg, n_div, n_rem, n_le_t, n_le_f, n_lt_t, n_lt_f, n_eq_t, n_eq_f, n_cl, n_gd, n_gdt, n_nz, Int.reduceToNat, Int.reduceAdd, Int.reduceSub, Int.reduceMul, Int.reduceNeg, Int.reduceLT, Int.reduceLE, Int.reduceEq, Int.reduceDiv, Int.reduceMod, Nat.reduceAdd, Nat.reduceMul, ↓reduceIte, u_eq, u_no, u_nk, u_ek, u_2, u_3, j_1, j_3, j_eq, j_no, j_nk, ltd, bnd]
      · have hc := hc.2 (fun ha => hn ⟨ht, by omega, ha⟩)
        simp (disch := omega) only [f_X9_deeper, hi, hc, bI_t, n_i8, n_i16, n_0, n_31, n_add, n_sub, n_mul, n_neg, n_div, n_rem, n_le_t, n_le_f, n_lt_t, n_lt_f, n_eq_t, n_eq_f, n_cl, n_gd, n_gdt, n_nz, Int.reduceToNat, Int.reduceAdd, Int.reduceSub, Int.reduceMul, Int.reduceNeg, Int.reduceLT, Int.reduceLE, Int.reduceEq, Int.reduceDiv, Int.reduceMod, Nat.reduceAdd, Nat.reduceMul, ↓reduceIte, u_eq, u_no, u_nk, u_ek, u_2, u_3, j_1, j_3, j_eq, j_no, j_nk, ltd, bnd]
    · rw [decide_eq_false ht] at hi
      simp (disch := omega) only [f_X9_deeper, hi, bI_f, n_i8, n_i16, n_0, n_31, n_add, n_sub, n_mul, n_neg, n_div, n_rem, n_le_t, n_le_f, n_lt_t, n_lt_f, n_eq_t, n_eq_f, n_cl, n_gd, n_gdt, n_nz, Int.reduceToNat, Int.reduceAdd, Int.reduceSub, Int.reduceMul, Int.reduceNeg, Int.reduceLT, Int.reduceLE, Int.reduceEq, Int.reduceDiv, Int.reduceMod, Nat.reduceAdd, Nat.reduceMul, ↓reduceIte, u_eq, u_no, u_nk, u_ek, u_2, u_3, j_1, j_3, j_eq, j_no, j_nk, ltd, bnd]
theorem c_byte {B : Brd} {G : Gam} (hB : Bv B) {k : Int} (s : ST) : f_X9_byteOfMan (Int32.ofInt (tkm B G k)) s = some (Int32.ofInt (tkb B G k), s) := by
  have hM : bM B ≤ 8 := hB.1.1.2.2.2.2.2.2.2.1
  have hb := tkm_b (G := G) hB (k := k)
  unfold tkb
  by_cases e : tkm B G k = -1
  · rw [if_pos e, e]
    simp (disch := omega) only [f_X9_byteOfMan, n_i8, n_i16, n_0, n_31, n_add, n_sub, n_mul, n_neg, n_div, n_rem, n_le_t, n_le_f, n_lt_t, n_lt_f, n_eq_t, n_eq_f, n_cl, n_gd, n_gdt, n_nz, Int.reduceToNat, Int.reduceAdd, Int.reduceSub, Int.reduceMul, Int.reduceNeg, Int.reduceLT, Int.reduceLE, Int.reduceEq, Int.reduceDiv, Int.reduceMod, Nat.reduceAdd, Nat.reduceMul, ↓reduceIte, u_eq, u_no, u_nk, u_ek, u_2, u_3, j_1, j_3, j_eq, j_no, j_nk, ltd, bnd]
  · rw [if_neg e]
    simp (disch := omega) only [f_X9_byteOfMan, n_i8, n_i16, n_0, n_31, n_add, n_sub, n_mul, n_neg, n_div, n_rem, n_le_t, n_le_f, n_lt_t, n_lt_f, n_eq_t, n_eq_f, n_cl, n_gd, n_gdt, n_nz, Int.reduceToNat, Int.reduceAdd, Int.reduceSub, Int.reduceMul, Int.reduceNeg, Int.reduceLT, Int.reduceLE, Int.reduceEq, Int.reduceDiv, Int.reduceMod, Nat.reduceAdd, Nat.reduceMul, ↓reduceIte, u_eq, u_no, u_nk, u_ek, u_2, u_3, j_1, j_3, j_eq, j_no, j_nk, ltd, bnd]
theorem c_option {B : Brd} {G : Gam} {brd : Bool} {p : Nat} {s : ST} (h : CQ B G brd p s) {k w : Int} (k1 : -2147483648 ≤ k) (k2 : k ≤ 2147483647) (w1 : -2147483648 ≤ w) (w2 : w ≤ 2147483647) : ∃ s', f_X9_option (Int32.ofInt k) (Int32.ofInt w) s = some (Int32.ofInt (aOpt B G k w), s') ∧ CQ B G brd p s' ∧ XF s s' := by
  have hA := h.1.1.1
  have hB := hA.1.1
  have hM : bM B ≤ 8 := hB.1.1.2.2.2.2.2.2.2.1
  have hM0 : 0 ≤ bM B := hB.1.1.2.2.2.2.2.2.1
  have hmv := c_moveAt hA h.1.1.2.1 k1 k2
  have hok := okA_chz (G := G) hM0 k2
  unfold aOpt
  generalize chz B G k = A at *
  by_cases e : A.1 = -1
  · rw [if_neg (fun c => c.2 e)]
    have hmc : mvC B A = -1 := by unfold mvC; rw [if_pos e]
    rw [hmc] at hmv
    refine ⟨s, ?_, h, XF.rf s⟩
    simp (disch := omega) only [f_X9_option, hmv, n_i8, n_i16, n_0, n_31, n_add, n_sub, n_mul, n_neg, n_div, n_rem, n_le_t, n_le_f, n_lt_t, n_lt_f, n_eq_t, n_eq_f, n_cl, n_gd, n_gdt, n_nz, Int.reduceToNat, Int.reduceAdd, Int.reduceSub, Int.reduceMul, Int.reduceNeg, Int.reduceLT, Int.reduceLE, Int.reduceEq, Int.reduceDiv, Int.reduceMod, Nat.reduceAdd, Nat.reduceMul, ↓reduceIte, u_eq, u_no, u_nk, u_ek, u_2, u_3, j_1, j_3, j_eq, j_no, j_nk, ltd, bnd]
  rcases hok with hok | ⟨-, m1, m2, q1, q2, hsd, hgo⟩
  · exact absurd hok e
  have hmc : mvC B A = 25 * A.2.2.2.1 + p5 B A.2.2.2.2 := by unfold mvC; rw [if_neg e]
  rw [hmc] at hmv
  have hp5 := p5_x hB q1 q2
  generalize A.2.2.2.1 = m at *
  generalize A.2.2.2.2 = j at *
  have hmo := fun s => c_man (s := s) (m := m) (q := p5 B j) m1 (by omega) hp5.2.2.1 hp5.2.2.2
  have hpo := fun s => c_plc (s := s) (m := m) (q := p5 B j) m1 (by omega) hp5.2.2.1 hp5.2.2.2
  by_cases e1 : w < 0
  · rw [if_neg (by omega)]
    refine ⟨s, ?_, h, XF.rf s⟩
    simp (disch := omega) only [f_X9_option, hmv, n_i8, n_i16, n_0, n_31, n_add, n_sub, n_mul, n_neg, n_div, n_rem, n_le_t, n_le_f, n_lt_t, n_lt_f, n_eq_t, n_eq_f, n_cl, n_gd, n_gdt, n_nz, Int.reduceToNat, Int.reduceAdd, Int.reduceSub, Int.reduceMul, Int.reduceNeg, Int.reduceLT, Int.reduceLE, Int.reduceEq, Int.reduceDiv, Int.reduceMod, Nat.reduceAdd, Nat.reduceMul, ↓reduceIte, u_eq, u_no, u_nk, u_ek, u_2, u_3, j_1, j_3, j_eq, j_no, j_nk, ltd, bnd]
  by_cases e2 : 4 < w
  · rw [if_neg (by omega)]
    refine ⟨s, ?_, h, XF.rf s⟩
    simp (disch := omega) only [f_X9_option, hmv, n_i8, n_i16, n_0, n_31, n_add, n_sub, n_mul, n_neg, n_div, n_rem, n_le_t, n_le_f, n_lt_t, n_lt_f, n_eq_t, n_eq_f, n_cl, n_gd, n_gdt, n_nz, Int.reduceToNat, Int.reduceAdd, Int.reduceSub, Int.reduceMul, Int.reduceNeg, Int.reduceLT, Int.reduceLE, Int.reduceEq, Int.reduceDiv, Int.reduceMod, Nat.reduceAdd, Nat.reduceMul, ↓reduceIte, u_eq, u_no, u_nk, u_ek, u_2, u_3, j_1, j_3, j_eq, j_no, j_nk, ltd, bnd]
  rw [if_pos ⟨by omega, e⟩]
  have : w = 0 ∨ w = 1 ∨ w = 2 ∨ w = 3 ∨ w = 4 := by omega
  rcases this with rfl | rfl | rfl | rfl | rfl
  · refine ⟨s, ?_, h, XF.rf s⟩
    simp (disch := omega) only [f_X9_option, hmv, hmo, hpo, n_i8, n_i16, n_0, n_31, n_add, n_sub, n_mul, n_neg, n_div, n_rem, n_le_t, n_le_f, n_lt_t, n_lt_f, n_eq_t, n_eq_f, n_cl, n_gd, n_gdt, n_nz, Int.reduceToNat, Int.reduceAdd, Int.reduceSub, Int.reduceMul, Int.reduceNeg, Int.reduceLT, Int.reduceLE, Int.reduceEq, Int.reduceDiv, Int.reduceMod, Nat.reduceAdd, Nat.reduceMul, ↓reduceIte, u_eq, u_no, u_nk, u_ek, u_2, u_3, j_1, j_3, j_eq, j_no, j_nk, ltd, bnd, n_l1, n_l2, n_l3, n_l4, n_l5, n_l6, n_l7, n_l8, n_l9, n_l10, n_l11, n_l12, n_l13, n_l14, n_l15, n_l16, n_l17, n_l18, n_l19, n_l20, n_l21, n_l22, n_l23, n_l24, n_l25, n_l26, n_l27, n_l28, n_l29, n_l30, n_l31, n_l32, n_l33, n_l34, n_l35, n_l36, n_l37, n_l38, n_l39, n_l40, n_l41, n_l42, n_l43, n_l44, n_l45, n_l46, n_l47, n_l48, n_l49, n_l50, n_l51, n_l52, n_l53, n_l54, n_l55, n_l56, n_l57, n_l58, n_l59, n_l60]
  · refine ⟨s, ?_, h, XF.rf s⟩
    rw [if_neg (by omega), if_pos rfl, ← hp5.1]
    simp (disch := omega) only [f_X9_option, hmv, hmo, hpo, n_i8, n_i16, n_0, n_31, n_add, n_sub, n_mul, n_neg, n_div, n_rem, n_le_t, n_le_f, n_lt_t, n_lt_f, n_eq_t, n_eq_f, n_cl, n_gd, n_gdt, n_nz, Int.reduceToNat, Int.reduceAdd, Int.reduceSub, Int.reduceMul, Int.reduceNeg, Int.reduceLT, Int.reduceLE, Int.reduceEq, Int.reduceDiv, Int.reduceMod, Nat.reduceAdd, Nat.reduceMul, ↓reduceIte, u_eq, u_no, u_nk, u_ek, u_2, u_3, j_1, j_3, j_eq, j_no, j_nk, ltd, bnd, n_l1, n_l2, n_l3, n_l4, n_l5, n_l6, n_l7, n_l8, n_l9, n_l10, n_l11, n_l12, n_l13, n_l14, n_l15, n_l16, n_l17, n_l18, n_l19, n_l20, n_l21, n_l22, n_l23, n_l24, n_l25, n_l26, n_l27, n_l28, n_l29, n_l30, n_l31, n_l32, n_l33, n_l34, n_l35, n_l36, n_l37, n_l38, n_l39, n_l40, n_l41, n_l42, n_l43, n_l44, n_l45, n_l46, n_l47, n_l48, n_l49, n_l50, n_l51, n_l52, n_l53, n_l54, n_l55, n_l56, n_l57, n_l58, n_l59, n_l60]
  · refine ⟨s, ?_, h, XF.rf s⟩
    rw [if_neg (by omega), if_neg (by omega), if_pos rfl, ← hp5.2.1]
    simp (disch := omega) only [f_X9_option, hmv, hmo, hpo, n_i8, n_i16, n_0, n_31, n_add, n_sub, n_mul, n_neg, n_div, n_rem, n_le_t, n_le_f, n_lt_t, n_lt_f, n_eq_t, n_eq_f, n_cl, n_gd, n_gdt, n_nz, Int.reduceToNat, Int.reduceAdd, Int.reduceSub, Int.reduceMul, Int.reduceNeg, Int.reduceLT, Int.reduceLE, Int.reduceEq, Int.reduceDiv, Int.reduceMod, Nat.reduceAdd, Nat.reduceMul, ↓reduceIte, u_eq, u_no, u_nk, u_ek, u_2, u_3, j_1, j_3, j_eq, j_no, j_nk, ltd, bnd, n_l1, n_l2, n_l3, n_l4, n_l5, n_l6, n_l7, n_l8, n_l9, n_l10, n_l11, n_l12, n_l13, n_l14, n_l15, n_l16, n_l17, n_l18, n_l19, n_l20, n_l21, n_l22, n_l23, n_l24, n_l25, n_l26, n_l27, n_l28, n_l29, n_l30, n_l31, n_l32, n_l33, n_l34, n_l35, n_l36, n_l37, n_l38, n_l39, n_l40, n_l41, n_l42, n_l43, n_l44, n_l45, n_l46, n_l47, n_l48, n_l49, n_l50, n_l51, n_l52, n_l53, n_l54, n_l55, n_l56, n_l57, n_l58, n_l59, n_l60]
  · refine ⟨s, ?_, h, XF.rf s⟩
    have hst : s.1 40 (p5 B j).toNat = Int32.ofInt (mAt B G (p5 B j % 5) (p5 B j / 5)) := hA.2.2.2.2.2.1 (p5 B j) hp5.2.2.1 hp5.2.2.2
    rw [hp5.1, hp5.2.1] at hst
    have hst : s.1 40 (p5 B j).toNat = Int32.ofInt (tkm B G j) := hst
    have hby := c_byte (G := G) hB (k := j) s
    simp (disch := omega) only [f_X9_option, hmv, hmo, hpo, hst, hby, n_i8, n_i16, n_0, n_31, n_add, n_sub, n_mul, n_neg, n_div, n_rem, n_le_t, n_le_f, n_lt_t, n_lt_f, n_eq_t, n_eq_f, n_cl, n_gd, n_gdt, n_nz, Int.reduceToNat, Int.reduceAdd, Int.reduceSub, Int.reduceMul, Int.reduceNeg, Int.reduceLT, Int.reduceLE, Int.reduceEq, Int.reduceDiv, Int.reduceMod, Nat.reduceAdd, Nat.reduceMul, ↓reduceIte, u_eq, u_no, u_nk, u_ek, u_2, u_3, j_1, j_3, j_eq, j_no, j_nk, ltd, bnd, n_l1, n_l2, n_l3, n_l4, n_l5, n_l6, n_l7, n_l8, n_l9, n_l10, n_l11, n_l12, n_l13, n_l14, n_l15, n_l16, n_l17, n_l18, n_l19, n_l20, n_l21, n_l22, n_l23, n_l24, n_l25, n_l26, n_l27, n_l28, n_l29, n_l30, n_l31, n_l32, n_l33, n_l34, n_l35, n_l36, n_l37, n_l38, n_l39, n_l40, n_l41, n_l42, n_l43, n_l44, n_l45, n_l46, n_l47, n_l48, n_l49, n_l50, n_l51, n_l52, n_l53, n_l54, n_l55, n_l56, n_l57, n_l58, n_l59, n_l60]
  · obtain ⟨s1, a1, a2, a3, a4, a5, a6⟩ := c_copy h.1.1 h.2.1.2 h.1.2.1 h.1.2.2.1
    obtain ⟨s2, b1, b2, ⟨-, -, b5⟩, b6⟩ := c_strike a2.1 m1 m2 q1 q2 hgo hsd
    have hf : ∀ a k : Nat, ¬ (46 ≤ a ∧ a ≤ 55) → s2.1 a k = s.1 a k := fun a k x => (b6.1 a k (by omega) (by omega) (by omega) (by omega)).trans (a5 a k x)
    refine ⟨s2, ?_, CQ_tr h (fun a k x _ _ => hf a k x) (b6.2.trans a6), ⟨fun a k x y => hf a k (by omega), b6.2.trans a6⟩⟩
    simp (disch := omega) only [f_X9_option, hmv, hmo, hpo, a1, b1, b5, n_i8, n_i16, n_0, n_31, n_add, n_sub, n_mul, n_neg, n_div, n_rem, n_le_t, n_le_f, n_lt_t, n_lt_f, n_eq_t, n_eq_f, n_cl, n_gd, n_gdt, n_nz, Int.reduceToNat, Int.reduceAdd, Int.reduceSub, Int.reduceMul, Int.reduceNeg, Int.reduceLT, Int.reduceLE, Int.reduceEq, Int.reduceDiv, Int.reduceMod, Nat.reduceAdd, Nat.reduceMul, ↓reduceIte, u_eq, u_no, u_nk, u_ek, u_2, u_3, j_1, j_3, j_eq, j_no, j_nk, ltd, bnd, n_l1, n_l2, n_l3, n_l4, n_l5, n_l6, n_l7, n_l8, n_l9, n_l10, n_l11, n_l12, n_l13, n_l14, n_l15, n_l16, n_l17, n_l18, n_l19, n_l20, n_l21, n_l22, n_l23, n_l24, n_l25, n_l26, n_l27, n_l28, n_l29, n_l30, n_l31, n_l32, n_l33, n_l34, n_l35, n_l36, n_l37, n_l38, n_l39, n_l40, n_l41, n_l42, n_l43, n_l44, n_l45, n_l46, n_l47, n_l48, n_l49, n_l50, n_l51, n_l52, n_l53, n_l54, n_l55, n_l56, n_l57, n_l58, n_l59, n_l60]
