/-! L3: the reference answers a question for one man -/
def qE (B : Brd) (G : Gam) (m i : Int) : Int := if i = 3 then gd_ G else if i = 4 then m else if i = 5 then gx G m else if i = 6 then gy G m else if i = 7 then sd B m else if i = 8 then wo B (kd B m) else if i = 9 then rch B (kd B m) else nMov B G m
def qFv (B : Brd) (G : Gam) (m v : Int) : Int := if v < bF B then farO (fx B v) (fy B v) (gx G m) (gy G m) else 0
def qVa (B : Brd) (G : Gam) (l : List Int) (m : Int) : Int := (evL (qE B G m) (ffr (qFv B G m)) l []).headD 0
theorem qE_b {B : Brd} {G : Gam} (hB : Bv B) (hG : Gv B G) {m : Int} (m0 : 0 ≤ m) (m1 : m < bM B) (hn : 0 ≤ nMov B G m ∧ nMov B G m ≤ 25) (i : Int) : lb (qE B G m i) := by
  have hM : bM B ≤ 8 := hB.1.1.2.2.2.2.2.2.2.1
  have hW : bW B ≤ 5 := hB.1.1.2.1
  have hH : bH B ≤ 5 := hB.1.1.2.2.2.1
  have hm := hB.2.2.1 m m0 m1
  have hk := hB.2.1 (kd B m) (by omega) (by omega)
  have hp := hG.2.1 m m0 m1
  have hd := hG.1
  unfold qE lb
  (repeat' split) <;> omega
theorem qFv_b {B : Brd} {G : Gam} (hB : Bv B) (hG : Gv B G) {m : Int} (m0 : 0 ≤ m) (m1 : m < bM B) {v : Int} (v0 : 0 ≤ v) : lb (qFv B G m v) := by
  have hW : bW B ≤ 5 := hB.1.1.2.1
  have hH : bH B ≤ 5 := hB.1.1.2.2.2.1
  have hp := hG.2.1 m m0 m1
  unfold qFv
  split
  · rename_i h
    have hf := hB.2.2.2.1 v v0 h
    have := farO_b (x := fx B v) (y := fy B v) (a := gx G m) (b := gy G m) (by omega) (by omega) (by omega) (by omega) (by omega) (by omega) (by omega) (by omega)
    unfold lb
    omega
  · unfold lb; omega
theorem ffr_b {Fr : Int → Int} (h : ∀ v, 0 ≤ v → lb (Fr v)) (v : Int) : lb (ffr Fr v) := by
  unfold ffr
  split
  · exact h v (by omega)
  · unfold lb; omega
theorem clp_i {v : Int} (h : lb v) : clp v = v := by
  unfold lb at h
  unfold clp
  rw [if_neg (by omega), if_neg (by omega)]
theorem m_qOf {B : Brd} {G : Gam} {s : ST} (h : MA B G s) {m v : Int} (m0 : 0 ≤ m) (m1 : m < bM B) (hv : lb v) (x : Int32) : f_X10_qOf x (Int64.ofInt v) (Int32.ofInt m) s = some (Int64.ofInt (ffr (qFv B G m) v), s) := by
  have hF : bF B ≤ 6 := h.1.1.1.2.2.2.2.2.2.2.2.2
  have hF0 : 0 ≤ bF B := h.1.1.1.2.2.2.2.2.2.2.2.1
  have hW : bW B ≤ 5 := h.1.1.1.2.1
  have hH : bH B ≤ 5 := h.1.1.1.2.2.2.1
  have hp := h.2.1.2.1 m m0 m1
  unfold lb at hv
  have a1 := m_fieldMany h
  have a2 : f_X10_isIn (Int64.ofInt v) (Int64.ofInt 0) (Int64.ofInt (bF B - 1)) s = some (bI (decide (0 ≤ v ∧ v ≤ bF B - 1)), s) := m_isIn (by omega) (by omega) (by omega) (by omega) (by omega) (by omega)
  have a3 := m_columnOf h m0 m1
  have a4 := m_rowOf h m0 m1
  unfold ffr qFv
  by_cases e : 0 ≤ v ∧ v ≤ bF B - 1
  · rw [decide_eq_true e] at a2
    have hf := h.1.2.2.2.1 v (by omega) (by omega)
    have hc := h.2.2.1.2.2.2 v (by omega) (by omega)
    obtain ⟨c1, c2⟩ := hc
    have a5 := m_farOff (s := s) (x := fx B v) (y := fy B v) (a := gx G m) (b := gy G m) (by omega) (by omega) (by omega) (by omega) (by omega) (by omega) (by omega) (by omega)
    have hfb := farO_b (x := fx B v) (y := fy B v) (a := gx G m) (b := gy G m) (by omega) (by omega) (by omega) (by omega) (by omega) (by omega) (by omega) (by omega)
    rw [if_pos (by omega), if_pos (by omega)]
    simp (disch := omega) only [f_X10_qOf, a1, a2, a3, a4, a5, c1, c2, bI_t, n_i8, n_i16, n_0, n_31, n_add, n_sub, n_mul, n_neg, n_div, n_rem, n_le_t, n_le_f, n_lt_t, n_lt_f, n_eq_t, n_eq_f, n_cl, n_gd, n_gdt, n_nz, Int.reduceToNat, Int.reduceAdd, Int.reduceSub, Int.reduceMul, Int.reduceNeg, Int.reduceLT, Int.reduceLE, Int.reduceEq, Int.reduceDiv, Int.reduceMod, Nat.reduceAdd, Nat.reduceMul, ↓reduceIte, l_0, l_1, l_00, l_i, l_j, l_add, l_sub, l_mul, l_gt, l_ceq, l_clt, l_nz, u_eq, u_no, u_nk, u_ek, u_2, u_3, j_1, j_3, j_eq, j_no, j_nk, ltd, bnd]
  · rw [decide_eq_false e] at a2
    have ez : (if 0 ≤ v ∧ v < 6 then (if v < bF B then farO (fx B v) (fy B v) (gx G m) (gy G m) else 0) else 0) = 0 := by
      split
      · rw [if_neg (by omega)]
      · rfl
    rw [ez]
    simp (disch := omega) only [f_X10_qOf, a1, a2, bI_f, n_i8, n_i16, n_0, n_31, n_add, n_sub, n_mul, n_neg, n_div, n_rem, n_le_t, n_le_f, n_lt_t, n_lt_f, n_eq_t, n_eq_f, n_cl, n_gd, n_gdt, n_nz, Int.reduceToNat, Int.reduceAdd, Int.reduceSub, Int.reduceMul, Int.reduceNeg, Int.reduceLT, Int.reduceLE, Int.reduceEq, Int.reduceDiv, Int.reduceMod, Nat.reduceAdd, Nat.reduceMul, ↓reduceIte, l_0, l_1, l_00, l_i, l_j, l_add, l_sub, l_mul, l_gt, l_ceq, l_clt, l_nz, u_eq, u_no, u_nk, u_ek, u_2, u_3, j_1, j_3, j_eq, j_no, j_nk, ltd, bnd]
def QA (B : Brd) (G : Gam) (m : Int) (cs : List Int) (s : ST) : Prop := MA B G s ∧ s.1 118 m.toNat = Int32.ofInt (nMov B G m) ∧ s.1 65 111 = Int32.ofInt (cs.length : Int) ∧ ∀ i : Nat, i < cs.length → s.1 146 i = Int32.ofInt (cs.getD i 0)
theorem QA_PF {B : Brd} {G : Gam} {m : Int} {cs : List Int} {s s' : ST} (h : QA B G m cs s) (hf : PF s s') : QA B G m cs s' := ⟨MA_fr h.1 (fun o k x => hf.1 o k (by omega)), (hf.1 118 _ (by omega)).trans h.2.1, (hf.1 65 111 (by omega)).trans h.2.2.1, fun i hi => (hf.1 146 i (by omega)).trans (h.2.2.2 i hi)⟩
theorem m_qPart {B : Brd} {G : Gam} {m : Int} {cs : List Int} {s : ST} (h : QA B G m cs s) (m0 : 0 ≤ m) (m1 : m < bM B) {i : Int} (i0 : 3 ≤ i) (i1 : i ≤ 10) : f_X10_qPartOf (Int32.ofInt i) (Int32.ofInt m) s = some (Int64.ofInt (qE B G m i), s) := by
  obtain ⟨hA, h118, -, -⟩ := h
  have hM : bM B ≤ 8 := hA.1.1.1.2.2.2.2.2.2.2.1
  have hW : bW B ≤ 5 := hA.1.1.1.2.1
  have hH : bH B ≤ 5 := hA.1.1.1.2.2.2.1
  have hK : bK B ≤ 5 := hA.1.1.1.2.2.2.2.2.1
  have hm := hA.1.2.2.1 m m0 m1
  have hk := hA.1.2.1 (kd B m) (by omega) (by omega)
  have hp := hA.2.1.2.1 m m0 m1
  have hd := hA.2.1.1
  have hn := nMov_b hA m
  have c0 := hA.2.2.2.1.1
  have c1 := m_columnOf hA m0 m1
  have c2 := m_rowOf hA m0 m1
  have c3 := m_sideOf hA m0 m1
  have c4 := m_worthOf hA m0 m1
  have c5 := m_kindOf hA m0 m1
  have c6 := (hA.2.2.1.2.1 (kd B m) (by omega) (by omega)).2.1
  have hc : i = 3 ∨ i = 4 ∨ i = 5 ∨ i = 6 ∨ i = 7 ∨ i = 8 ∨ i = 9 ∨ i = 10 := by omega
  rcases hc with rfl | rfl | rfl | rfl | rfl | rfl | rfl | rfl
  · simp (disch := omega) only [f_X10_qPartOf, c0, n_i8, n_i16, n_0, n_31, n_add, n_sub, n_mul, n_neg, n_div, n_rem, n_le_t, n_le_f, n_lt_t, n_lt_f, n_eq_t, n_eq_f, n_cl, n_gd, n_gdt, n_nz, Int.reduceToNat, Int.reduceAdd, Int.reduceSub, Int.reduceMul, Int.reduceNeg, Int.reduceLT, Int.reduceLE, Int.reduceEq, Int.reduceDiv, Int.reduceMod, Nat.reduceAdd, Nat.reduceMul, ↓reduceIte, l_0, l_1, l_00, l_i, l_j, l_add, l_sub, l_mul, l_gt, l_ceq, l_clt, l_nz, n_l1, n_l2, n_l3, n_l4, n_l5, n_l6, n_l7, n_l8, n_l9, n_l10, n_l11, n_l12, n_l13, n_l14, n_l15, n_l16, n_l17, n_l18, n_l19, n_l20, n_l21, n_l22, n_l23, n_l24, n_l25, n_l26, n_l27, n_l28, n_l29, n_l30, n_l31, n_l32, n_l33, n_l34, n_l35, n_l36, n_l37, n_l38, n_l39, n_l40, n_l41, n_l42, n_l43, n_l44, n_l45, n_l46, n_l47, n_l48, n_l49, n_l50, n_l51, n_l52, n_l53, n_l54, n_l55, n_l56, n_l57, n_l58, n_l59, n_l60, qE, Int.toNat_zero]
  · simp (disch := omega) only [f_X10_qPartOf, n_i8, n_i16, n_0, n_31, n_add, n_sub, n_mul, n_neg, n_div, n_rem, n_le_t, n_le_f, n_lt_t, n_lt_f, n_eq_t, n_eq_f, n_cl, n_gd, n_gdt, n_nz, Int.reduceToNat, Int.reduceAdd, Int.reduceSub, Int.reduceMul, Int.reduceNeg, Int.reduceLT, Int.reduceLE, Int.reduceEq, Int.reduceDiv, Int.reduceMod, Nat.reduceAdd, Nat.reduceMul, ↓reduceIte, l_0, l_1, l_00, l_i, l_j, l_add, l_sub, l_mul, l_gt, l_ceq, l_clt, l_nz, n_l1, n_l2, n_l3, n_l4, n_l5, n_l6, n_l7, n_l8, n_l9, n_l10, n_l11, n_l12, n_l13, n_l14, n_l15, n_l16, n_l17, n_l18, n_l19, n_l20, n_l21, n_l22, n_l23, n_l24, n_l25, n_l26, n_l27, n_l28, n_l29, n_l30, n_l31, n_l32, n_l33, n_l34, n_l35, n_l36, n_l37, n_l38, n_l39, n_l40, n_l41, n_l42, n_l43, n_l44, n_l45, n_l46, n_l47, n_l48, n_l49, n_l50, n_l51, n_l52, n_l53, n_l54, n_l55, n_l56, n_l57, n_l58, n_l59, n_l60, qE]
  · simp (disch := omega) only [f_X10_qPartOf, c1, n_i8, n_i16, n_0, n_31, n_add, n_sub, n_mul, n_neg, n_div, n_rem, n_le_t, n_le_f, n_lt_t, n_lt_f, n_eq_t, n_eq_f, n_cl, n_gd, n_gdt, n_nz, Int.reduceToNat, Int.reduceAdd, Int.reduceSub, Int.reduceMul, Int.reduceNeg, Int.reduceLT, Int.reduceLE, Int.reduceEq, Int.reduceDiv, Int.reduceMod, Nat.reduceAdd, Nat.reduceMul, ↓reduceIte, l_0, l_1, l_00, l_i, l_j, l_add, l_sub, l_mul, l_gt, l_ceq, l_clt, l_nz, n_l1, n_l2, n_l3, n_l4, n_l5, n_l6, n_l7, n_l8, n_l9, n_l10, n_l11, n_l12, n_l13, n_l14, n_l15, n_l16, n_l17, n_l18, n_l19, n_l20, n_l21, n_l22, n_l23, n_l24, n_l25, n_l26, n_l27, n_l28, n_l29, n_l30, n_l31, n_l32, n_l33, n_l34, n_l35, n_l36, n_l37, n_l38, n_l39, n_l40, n_l41, n_l42, n_l43, n_l44, n_l45, n_l46, n_l47, n_l48, n_l49, n_l50, n_l51, n_l52, n_l53, n_l54, n_l55, n_l56, n_l57, n_l58, n_l59, n_l60, qE, u_eq, u_no, u_nk, u_ek, u_2, u_3, j_1, j_3, j_eq, j_no, j_nk, ltd, bnd]
  · simp (disch := omega) only [f_X10_qPartOf, c2, n_i8, n_i16, n_0, n_31, n_add, n_sub, n_mul, n_neg, n_div, n_rem, n_le_t, n_le_f, n_lt_t, n_lt_f, n_eq_t, n_eq_f, n_cl, n_gd, n_gdt, n_nz, Int.reduceToNat, Int.reduceAdd, Int.reduceSub, Int.reduceMul, Int.reduceNeg, Int.reduceLT, Int.reduceLE, Int.reduceEq, Int.reduceDiv, Int.reduceMod, Nat.reduceAdd, Nat.reduceMul, ↓reduceIte, l_0, l_1, l_00, l_i, l_j, l_add, l_sub, l_mul, l_gt, l_ceq, l_clt, l_nz, n_l1, n_l2, n_l3, n_l4, n_l5, n_l6, n_l7, n_l8, n_l9, n_l10, n_l11, n_l12, n_l13, n_l14, n_l15, n_l16, n_l17, n_l18, n_l19, n_l20, n_l21, n_l22, n_l23, n_l24, n_l25, n_l26, n_l27, n_l28, n_l29, n_l30, n_l31, n_l32, n_l33, n_l34, n_l35, n_l36, n_l37, n_l38, n_l39, n_l40, n_l41, n_l42, n_l43, n_l44, n_l45, n_l46, n_l47, n_l48, n_l49, n_l50, n_l51, n_l52, n_l53, n_l54, n_l55, n_l56, n_l57, n_l58, n_l59, n_l60, qE, u_eq, u_no, u_nk, u_ek, u_2, u_3, j_1, j_3, j_eq, j_no, j_nk, ltd, bnd]
  · simp (disch := omega) only [f_X10_qPartOf, c3, n_i8, n_i16, n_0, n_31, n_add, n_sub, n_mul, n_neg, n_div, n_rem, n_le_t, n_le_f, n_lt_t, n_lt_f, n_eq_t, n_eq_f, n_cl, n_gd, n_gdt, n_nz, Int.reduceToNat, Int.reduceAdd, Int.reduceSub, Int.reduceMul, Int.reduceNeg, Int.reduceLT, Int.reduceLE, Int.reduceEq, Int.reduceDiv, Int.reduceMod, Nat.reduceAdd, Nat.reduceMul, ↓reduceIte, l_0, l_1, l_00, l_i, l_j, l_add, l_sub, l_mul, l_gt, l_ceq, l_clt, l_nz, n_l1, n_l2, n_l3, n_l4, n_l5, n_l6, n_l7, n_l8, n_l9, n_l10, n_l11, n_l12, n_l13, n_l14, n_l15, n_l16, n_l17, n_l18, n_l19, n_l20, n_l21, n_l22, n_l23, n_l24, n_l25, n_l26, n_l27, n_l28, n_l29, n_l30, n_l31, n_l32, n_l33, n_l34, n_l35, n_l36, n_l37, n_l38, n_l39, n_l40, n_l41, n_l42, n_l43, n_l44, n_l45, n_l46, n_l47, n_l48, n_l49, n_l50, n_l51, n_l52, n_l53, n_l54, n_l55, n_l56, n_l57, n_l58, n_l59, n_l60, qE, u_eq, u_no, u_nk, u_ek, u_2, u_3, j_1, j_3, j_eq, j_no, j_nk, ltd, bnd]
  · simp (disch := omega) only [f_X10_qPartOf, c4, n_i8, n_i16, n_0, n_31, n_add, n_sub, n_mul, n_neg, n_div, n_rem, n_le_t, n_le_f, n_lt_t, n_lt_f, n_eq_t, n_eq_f, n_cl, n_gd, n_gdt, n_nz, Int.reduceToNat, Int.reduceAdd, Int.reduceSub, Int.reduceMul, Int.reduceNeg, Int.reduceLT, Int.reduceLE, Int.reduceEq, Int.reduceDiv, Int.reduceMod, Nat.reduceAdd, Nat.reduceMul, ↓reduceIte, l_0, l_1, l_00, l_i, l_j, l_add, l_sub, l_mul, l_gt, l_ceq, l_clt, l_nz, n_l1, n_l2, n_l3, n_l4, n_l5, n_l6, n_l7, n_l8, n_l9, n_l10, n_l11, n_l12, n_l13, n_l14, n_l15, n_l16, n_l17, n_l18, n_l19, n_l20, n_l21, n_l22, n_l23, n_l24, n_l25, n_l26, n_l27, n_l28, n_l29, n_l30, n_l31, n_l32, n_l33, n_l34, n_l35, n_l36, n_l37, n_l38, n_l39, n_l40, n_l41, n_l42, n_l43, n_l44, n_l45, n_l46, n_l47, n_l48, n_l49, n_l50, n_l51, n_l52, n_l53, n_l54, n_l55, n_l56, n_l57, n_l58, n_l59, n_l60, qE, u_eq, u_no, u_nk, u_ek, u_2, u_3, j_1, j_3, j_eq, j_no, j_nk, ltd, bnd]
  · simp (disch := omega) only [f_X10_qPartOf, c5, c6, n_i8, n_i16, n_0, n_31, n_add, n_sub, n_mul, n_neg, n_div, n_rem, n_le_t, n_le_f, n_lt_t, n_lt_f, n_eq_t, n_eq_f, n_cl, n_gd, n_gdt, n_nz, Int.reduceToNat, Int.reduceAdd, Int.reduceSub, Int.reduceMul, Int.reduceNeg, Int.reduceLT, Int.reduceLE, Int.reduceEq, Int.reduceDiv, Int.reduceMod, Nat.reduceAdd, Nat.reduceMul, ↓reduceIte, l_0, l_1, l_00, l_i, l_j, l_add, l_sub, l_mul, l_gt, l_ceq, l_clt, l_nz, n_l1, n_l2, n_l3, n_l4, n_l5, n_l6, n_l7, n_l8, n_l9, n_l10, n_l11, n_l12, n_l13, n_l14, n_l15, n_l16, n_l17, n_l18, n_l19, n_l20, n_l21, n_l22, n_l23, n_l24, n_l25, n_l26, n_l27, n_l28, n_l29, n_l30, n_l31, n_l32, n_l33, n_l34, n_l35, n_l36, n_l37, n_l38, n_l39, n_l40, n_l41, n_l42, n_l43, n_l44, n_l45, n_l46, n_l47, n_l48, n_l49, n_l50, n_l51, n_l52, n_l53, n_l54, n_l55, n_l56, n_l57, n_l58, n_l59, n_l60, qE, u_eq, u_no, u_nk, u_ek, u_2, u_3, j_1, j_3, j_eq, j_no, j_nk, ltd, bnd]
  · simp (disch := omega) only [f_X10_qPartOf, h118, n_i8, n_i16, n_0, n_31, n_add, n_sub, n_mul, n_neg, n_div, n_rem, n_le_t, n_le_f, n_lt_t, n_lt_f, n_eq_t, n_eq_f, n_cl, n_gd, n_gdt, n_nz, Int.reduceToNat, Int.reduceAdd, Int.reduceSub, Int.reduceMul, Int.reduceNeg, Int.reduceLT, Int.reduceLE, Int.reduceEq, Int.reduceDiv, Int.reduceMod, Nat.reduceAdd, Nat.reduceMul, ↓reduceIte, l_0, l_1, l_00, l_i, l_j, l_add, l_sub, l_mul, l_gt, l_ceq, l_clt, l_nz, n_l1, n_l2, n_l3, n_l4, n_l5, n_l6, n_l7, n_l8, n_l9, n_l10, n_l11, n_l12, n_l13, n_l14, n_l15, n_l16, n_l17, n_l18, n_l19, n_l20, n_l21, n_l22, n_l23, n_l24, n_l25, n_l26, n_l27, n_l28, n_l29, n_l30, n_l31, n_l32, n_l33, n_l34, n_l35, n_l36, n_l37, n_l38, n_l39, n_l40, n_l41, n_l42, n_l43, n_l44, n_l45, n_l46, n_l47, n_l48, n_l49, n_l50, n_l51, n_l52, n_l53, n_l54, n_l55, n_l56, n_l57, n_l58, n_l59, n_l60, qE, u_eq, u_no, u_nk, u_ek, u_2, u_3, j_1, j_3, j_eq, j_no, j_nk, ltd, bnd]
theorem r_top {v u : Int} {q : List Int} {s : ST} (h : PL (v :: q) s) : PL (u :: q) (uJ s 148 q.length (Int64.ofInt u)) ∧ PF s (uJ s 148 q.length (Int64.ofInt u)) := by
  refine ⟨⟨h.1, ?_, PLe_fr h.2.2 (fun i hi => ?_)⟩, ⟨fun o k hk => rfl, fun o k hk => j_no hk, rfl⟩⟩
  · rw [j_eq]
  · rw [j_nk (by omega)]
theorem m_told_L {B : Brd} {G : Gam} {m : Int} {cs : List Int} (m0 : 0 ≤ m) (m1 : m < bM B) (hl : (cs.length : Int) ≤ 1600) (hc : ∀ v ∈ cs, cdP true v) (K : ST → Option (Int64 × ST)) : ∀ (n F i : Nat) (T T' : List Bool) (st : List Int) (s : ST), QA B G m cs s → i + n = cs.length → n < F → PL st s → vts T st → T.length ≤ 60 → tyL (cs.drop i) T = some T' → ∃ s', PF s s' ∧ vts T' (evL (qE B G m) (ffr (qFv B G m)) (cs.drop i) st) ∧ PL (evL (qE B G m) (ffr (qFv B G m)) (cs.drop i) st) s' ∧ f_X10_qTold_L7 K F (Int32.ofInt m) (Int32.ofInt (i : Int)) s = K s' := by
  intro n
  induction n with
  | zero =>
    intro F i T T' st s h hi hF hP hv hT ht
    obtain ⟨F, rfl⟩ : ∃ F', F = F' + 1 := ⟨F - 1, by omega⟩
    rw [List.drop_of_length_le (by omega)] at ht ⊢
    have hTT : T = T' := by
      have : some T = some T' := ht
      injection this
    have h4 := h.2.2.1
    subst hTT
    refine ⟨s, PF.rf s, hv, hP, ?_⟩
    simp (disch := omega) only [f_X10_qTold_L7, h4, n_i8, n_i16, n_0, n_31, n_add, n_sub, n_mul, n_neg, n_div, n_rem, n_le_t, n_le_f, n_lt_t, n_lt_f, n_eq_t, n_eq_f, n_cl, n_gd, n_gdt, n_nz, Int.reduceToNat, Int.reduceAdd, Int.reduceSub, Int.reduceMul, Int.reduceNeg, Int.reduceLT, Int.reduceLE, Int.reduceEq, Int.reduceDiv, Int.reduceMod, Nat.reduceAdd, Nat.reduceMul, ↓reduceIte]
  | succ n ih =>
    intro F i T T' st s h hi hF hP hv hT ht
    obtain ⟨F, rfl⟩ : ∃ F', F = F' + 1 := ⟨F - 1, by omega⟩
    have hil : i < cs.length := by omega
    have hM : bM B ≤ 8 := h.1.1.1.1.2.2.2.2.2.2.2.1
    have h4 := h.2.2.1
    have g5 := h.2.2.2 i hil
    have hg : cs.getD i 0 = cs[i] := by rw [List.getD_eq_getElem?_getD, List.getElem?_eq_getElem hil]; rfl
    have hcw := hc cs[i] (List.getElem_mem hil)
    rw [hg] at g5
    rw [List.drop_eq_getElem_cons hil] at ht ⊢
    have ecl : (Int32.ofInt (i : Int)).toNatClampNeg = i := by rw [n_cl (by omega) (by omega)]; omega
    have egd : ∀ {α : Type} {y : Option α}, gd (ib (Int32.ofInt (i : Int)) 1700) y = y := by intro α y; exact n_gd (by omega) (by omega) (by omega)
    obtain ⟨T1, ht1, ht2⟩ := tyL_some ht
    have hEb := qE_b h.1.1 h.1.2.1 m0 m1 (nMov_b h.1 m)
    have hFb := fun v => ffr_b (Fr := qFv B G m) (fun v v0 => qFv_b h.1.1 h.1.2.1 m0 m1 v0) v
    have hv1 := ev_ty (E := qE B G m) (F := ffr (qFv B G m)) (fun i _ _ => hEb i) (fun v _ => hFb v) hv ht1
    have hl1 := ty1_len ht1 hT
    have hlen := vts_len hv
    have next : ∀ s1 : ST, PF s s1 → PL (ev1 (qE B G m) (ffr (qFv B G m)) cs[i] st) s1 → ∃ s', PF s s' ∧ vts T' (evL (qE B G m) (ffr (qFv B G m)) (cs[i] :: cs.drop (i + 1)) st) ∧ PL (evL (qE B G m) (ffr (qFv B G m)) (cs[i] :: cs.drop (i + 1)) st) s' ∧ f_X10_qTold_L7 K F (Int32.ofInt m) (Int32.ofInt ((i : Int) + 1)) s1 = K s' := by
      intro s1 hF1 hP1
      obtain ⟨s', q1, q2, q2b, q3⟩ := ih F (i + 1) T1 T' _ s1 (QA_PF h hF1) (by omega) (by omega) hP1 hv1 hl1 ht2
      exact ⟨s', hF1.tr q1, q2, q2b, q3⟩
    generalize cs[i] = w at *
    by_cases w1 : 1000 ≤ w
    · have ee : ev1 (qE B G m) (ffr (qFv B G m)) w st = (w - 1000) :: st := by unfold ev1; rw [if_pos w1]
      have hw : w ≤ 10999 := by unfold cdP at hcw; omega
      obtain ⟨s1, q1, q2, q3⟩ := r_puts hP (by omega) (w - 1000)
      rw [ee] at next
      obtain ⟨s', q4, q5, q5b, q6⟩ := next s1 q3 q2
      refine ⟨s', q4, q5, q5b, ?_⟩
      rw [← q6, f_X10_qTold_L7]
      simp (disch := omega) only [h4, g5, ecl, egd, ↓bb q1, n_i8, n_i16, n_0, n_31, n_add, n_sub, n_mul, n_neg, n_div, n_rem, n_le_t, n_le_f, n_lt_t, n_lt_f, n_eq_t, n_eq_f, n_cl, n_gd, n_gdt, n_nz, Int.reduceToNat, Int.reduceAdd, Int.reduceSub, Int.reduceMul, Int.reduceNeg, Int.reduceLT, Int.reduceLE, Int.reduceEq, Int.reduceDiv, Int.reduceMod, Nat.reduceAdd, Nat.reduceMul, ↓reduceIte, l_0, l_1, l_00, l_i, l_j, l_add, l_sub, l_mul, l_gt, l_ceq, l_clt, l_nz, ltd]
    by_cases w2 : w = 60
    · have hTf : ∃ r, T = false :: r := by
        unfold ty1 at ht1
        rw [if_neg w1, if_pos w2] at ht1
        split at ht1
        · exact ⟨_, rfl⟩
        · cases ht1
      obtain ⟨r, rfl⟩ := hTf
      match st, hv with
      | v :: q, hv =>
        have ee : ev1 (qE B G m) (ffr (qFv B G m)) w (v :: q) = ffr (qFv B G m) v :: q := by unfold ev1; rw [if_neg w1, if_pos w2]
        rw [List.length_cons] at hlen
        have hq : q.length < 60 := by simp only [List.length_cons] at hT hlen; omega
        obtain ⟨q2, q3⟩ := r_top (u := ffr (qFv B G m) v) hP
        rw [ee] at next
        obtain ⟨s', q4, q5, q5b, q6⟩ := next _ q3 q2
        refine ⟨s', q4, q5, q5b, ?_⟩
        have p1 : s.1 65 117 = Int32.ofInt ((q.length : Int) + 1) := hP.1
        have p2 : s.2.1 148 q.length = Int64.ofInt v := hP.2.1
        have e3 : Int32.ofInt ((q.length : Int) + 1) - Int32.ofInt 1 = Int32.ofInt (q.length : Int) := by rw [n_sub, show (q.length : Int) + 1 - 1 = (q.length : Int) by omega]
        have ecl2 : (Int32.ofInt (q.length : Int)).toNatClampNeg = q.length := by rw [n_cl (by omega) (by omega)]; omega
        have egd2 : ∀ {α : Type} {y : Option α}, gd (ib (Int32.ofInt (q.length : Int)) 1700) y = y := by intro α y; exact n_gd (by omega) (by omega) (by omega)
        have hqo := m_qOf h.1 m0 m1 hv.1.1 (Int32.ofInt (w - 60))
        have hcl := m_clip (s := s) (v := ffr (qFv B G m) v) (by have := hFb v; unfold lb at this; omega) (by have := hFb v; unfold lb at this; omega)
        rw [clp_i (hFb v)] at hcl
        rw [← q6, f_X10_qTold_L7]
        simp (disch := omega) only [h4, g5, p1, p2, e3, ecl, egd, ecl2, egd2, ↓bb hqo, ↓bb hcl, n_i8, n_i16, n_0, n_31, n_add, n_sub, n_mul, n_neg, n_div, n_rem, n_le_t, n_le_f, n_lt_t, n_lt_f, n_eq_t, n_eq_f, n_cl, n_gd, n_gdt, n_nz, Int.reduceToNat, Int.reduceAdd, Int.reduceSub, Int.reduceMul, Int.reduceNeg, Int.reduceLT, Int.reduceLE, Int.reduceEq, Int.reduceDiv, Int.reduceMod, Nat.reduceAdd, Nat.reduceMul, ↓reduceIte, l_0, l_1, l_00, l_i, l_j, l_add, l_sub, l_mul, l_gt, l_ceq, l_clt, l_nz, ltd]
    by_cases w3 : 40 ≤ w
    · have hw : 43 ≤ w ∧ w ≤ 50 := by
        rcases hcw with x | x | ⟨x, -⟩ | ⟨-, x⟩
        · omega
        · omega
        · cases x
        · omega
      have ee : ev1 (qE B G m) (ffr (qFv B G m)) w st = qE B G m (w - 40) :: st := by unfold ev1; rw [if_neg w1, if_neg w2, if_pos w3]
      have hpa := m_qPart h m0 m1 (i := w - 40) (by omega) (by omega)
      have hcl := m_clip (s := s) (v := qE B G m (w - 40)) (by have := hEb (w - 40); unfold lb at this; omega) (by have := hEb (w - 40); unfold lb at this; omega)
      rw [clp_i (hEb (w - 40))] at hcl
      obtain ⟨s1, q1, q2, q3⟩ := r_puts hP (by omega) (qE B G m (w - 40))
      rw [ee] at next
      obtain ⟨s', q4, q5, q5b, q6⟩ := next s1 q3 q2
      refine ⟨s', q4, q5, q5b, ?_⟩
      rw [← q6, f_X10_qTold_L7]
      simp (disch := omega) only [h4, g5, ecl, egd, ↓bb hpa, ↓bb hcl, ↓bb q1, n_i8, n_i16, n_0, n_31, n_add, n_sub, n_mul, n_neg, n_div, n_rem, n_le_t, n_le_f, n_lt_t, n_lt_f, n_eq_t, n_eq_f, n_cl, n_gd, n_gdt, n_nz, Int.reduceToNat, Int.reduceAdd, Int.reduceSub, Int.reduceMul, Int.reduceNeg, Int.reduceLT, Int.reduceLE, Int.reduceEq, Int.reduceDiv, Int.reduceMod, Nat.reduceAdd, Nat.reduceMul, ↓reduceIte, l_0, l_1, l_00, l_i, l_j, l_add, l_sub, l_mul, l_gt, l_ceq, l_clt, l_nz, ltd]
    by_cases w4 : w = 13
    · have ee : ev1 (qE B G m) (ffr (qFv B G m)) w st = 1 :: st := by unfold ev1; rw [if_neg w1, if_neg w2, if_neg w3, if_pos w4]
      obtain ⟨s1, q1, q2, q3⟩ := r_puts hP (by omega) 1
      rw [ee] at next
      obtain ⟨s', q4, q5, q5b, q6⟩ := next s1 q3 q2
      refine ⟨s', q4, q5, q5b, ?_⟩
      rw [← q6, f_X10_qTold_L7]
      simp (disch := omega) only [h4, g5, ecl, egd, ↓bb q1, n_i8, n_i16, n_0, n_31, n_add, n_sub, n_mul, n_neg, n_div, n_rem, n_le_t, n_le_f, n_lt_t, n_lt_f, n_eq_t, n_eq_f, n_cl, n_gd, n_gdt, n_nz, Int.reduceToNat, Int.reduceAdd, Int.reduceSub, Int.reduceMul, Int.reduceNeg, Int.reduceLT, Int.reduceLE, Int.reduceEq, Int.reduceDiv, Int.reduceMod, Nat.reduceAdd, Nat.reduceMul, ↓reduceIte, l_0, l_1, l_00, l_i, l_j, l_add, l_sub, l_mul, l_gt, l_ceq, l_clt, l_nz, ltd]
    by_cases w5 : w = 12
    · have hTf : ∃ r, T = true :: r := by
        unfold ty1 at ht1
        rw [if_neg w1, if_neg w2, if_neg w3, if_neg w4, if_pos w5] at ht1
        split at ht1
        · exact ⟨_, rfl⟩
        · cases ht1
      obtain ⟨r, rfl⟩ := hTf
      match st, hv with
      | v :: q, hv =>
        have ee : ev1 (qE B G m) (ffr (qFv B G m)) w (v :: q) = (1 - v) :: q := by unfold ev1; rw [if_neg w1, if_neg w2, if_neg w3, if_neg w4, if_pos w5]
        rw [List.length_cons] at hlen
        have hq : q.length < 60 := by simp only [List.length_cons] at hT hlen; omega
        obtain ⟨q2, q3⟩ := r_top (u := 1 - v) hP
        rw [ee] at next
        obtain ⟨s', q4, q5, q5b, q6⟩ := next _ q3 q2
        refine ⟨s', q4, q5, q5b, ?_⟩
        have hvb := hv.1.1
        unfold lb at hvb
        have p1 : s.1 65 117 = Int32.ofInt ((q.length : Int) + 1) := hP.1
        have p2 : s.2.1 148 q.length = Int64.ofInt v := hP.2.1
        have e3 : Int32.ofInt ((q.length : Int) + 1) - Int32.ofInt 1 = Int32.ofInt (q.length : Int) := by rw [n_sub, show (q.length : Int) + 1 - 1 = (q.length : Int) by omega]
        have ecl2 : (Int32.ofInt (q.length : Int)).toNatClampNeg = q.length := by rw [n_cl (by omega) (by omega)]; omega
        have egd2 : ∀ {α : Type} {y : Option α}, gd (ib (Int32.ofInt (q.length : Int)) 1700) y = y := by intro α y; exact n_gd (by omega) (by omega) (by omega)
        rw [← q6, f_X10_qTold_L7]
        simp (disch := omega) only [h4, g5, p1, p2, e3, ecl, egd, ecl2, egd2, n_i8, n_i16, n_0, n_31, n_add, n_sub, n_mul, n_neg, n_div, n_rem, n_le_t, n_le_f, n_lt_t, n_lt_f, n_eq_t, n_eq_f, n_cl, n_gd, n_gdt, n_nz, Int.reduceToNat, Int.reduceAdd, Int.reduceSub, Int.reduceMul, Int.reduceNeg, Int.reduceLT, Int.reduceLE, Int.reduceEq, Int.reduceDiv, Int.reduceMod, Nat.reduceAdd, Nat.reduceMul, ↓reduceIte, l_0, l_1, l_00, l_i, l_j, l_add, l_sub, l_mul, l_gt, l_ceq, l_clt, l_nz, ltd]
    have hTf : (1 ≤ w ∧ w ≤ 11) ∧ ∃ t u r, T = t :: u :: r := by
      unfold ty1 at ht1
      rw [if_neg w1, if_neg w2, if_neg w3, if_neg w4, if_neg w5] at ht1
      by_cases y1 : 1 ≤ w ∧ w ≤ 6
      · rw [if_pos y1] at ht1
        split at ht1
        · exact ⟨by omega, _, _, _, rfl⟩
        · cases ht1
      rw [if_neg y1] at ht1
      by_cases y2 : 7 ≤ w ∧ w ≤ 9
      · rw [if_pos y2] at ht1
        split at ht1
        · exact ⟨by omega, _, _, _, rfl⟩
        · cases ht1
      rw [if_neg y2] at ht1
      by_cases y3 : 10 ≤ w ∧ w ≤ 11
      · rw [if_pos y3] at ht1
        split at ht1
        · exact ⟨by omega, _, _, _, rfl⟩
        · cases ht1
      rw [if_neg y3] at ht1
      cases ht1
    obtain ⟨⟨y1, y2⟩, t, u, r, rfl⟩ := hTf
    match st, hv with
    | b :: a :: q, hv =>
      have ee : ev1 (qE B G m) (ffr (qFv B G m)) w (b :: a :: q) = jn w a b :: q := by unfold ev1; rw [if_neg w1, if_neg w2, if_neg w3, if_neg w4, if_neg w5]
      rw [List.length_cons, List.length_cons] at hlen
      have hq : q.length < 60 := by simp only [List.length_cons] at hT hlen; omega
      obtain ⟨s1, q1, q2, q3⟩ := r_joins (c := w) hP (by omega) hv.2.1.1 hv.1.1 y1 y2
      rw [ee] at next
      obtain ⟨s', q4, q5, q5b, q6⟩ := next s1 q3 q2
      refine ⟨s', q4, q5, q5b, ?_⟩
      rw [← q6, f_X10_qTold_L7]
      simp (disch := omega) only [h4, g5, ecl, egd, ↓bb q1, n_i8, n_i16, n_0, n_31, n_add, n_sub, n_mul, n_neg, n_div, n_rem, n_le_t, n_le_f, n_lt_t, n_lt_f, n_eq_t, n_eq_f, n_cl, n_gd, n_gdt, n_nz, Int.reduceToNat, Int.reduceAdd, Int.reduceSub, Int.reduceMul, Int.reduceNeg, Int.reduceLT, Int.reduceLE, Int.reduceEq, Int.reduceDiv, Int.reduceMod, Nat.reduceAdd, Nat.reduceMul, ↓reduceIte, l_0, l_1, l_00, l_i, l_j, l_add, l_sub, l_mul, l_gt, l_ceq, l_clt, l_nz, ltd]
/-- what one man answers -/
theorem m_qTold {B : Brd} {G : Gam} {m : Int} {cs : List Int} {t : Bool} (m0 : 0 ≤ m) (m1 : m < bM B) (hl : (cs.length : Int) ≤ 1600) (hc : ∀ v ∈ cs, cdP true v) (hty : tyL cs [] = some [t]) {s : ST} (h : QA B G m cs s) : ∃ s', f_X10_qTold (Int32.ofInt m) s = some (Int64.ofInt (qVa B G cs m), s') ∧ vt t (qVa B G cs m) ∧ PF s s' := by
  have hf : PF s (uI s 65 117 (Int32.ofInt 0)) := ⟨fun o k hk => by (simp only [ua, ja, u_2, u_3, j_1, j_3]; (repeat' split) <;> first | rfl | (exfalso; omega)), fun o k hk => rfl, rfl⟩
  obtain ⟨s', q1, q2, q3, q4⟩ := m_told_L (B := B) (G := G) (cs := cs) m0 m1 hl hc f_X10_qTold_j168 cs.length fuel 0 [] [t] [] _ (QA_PF h hf) (by omega) (by unfold fuel; omega) ⟨u_eq _ _ _ _, trivial⟩ trivial (by decide) (by rw [List.drop_zero]; exact hty)
  rw [List.drop_zero] at q2 q3
  have hq : f_X10_qTold (Int32.ofInt m) s = f_X10_qTold_j168 s' := by
    rw [← q4]
    simp only [f_X10_qTold, ltd]
    rfl
  unfold qVa
  generalize evL (qE B G m) (ffr (qFv B G m)) cs [] = r at *
  match r, q2 with
  | [v], q2 =>
    refine ⟨s', ?_, q2.1, hf.tr q1⟩
    have p : s'.2.1 148 0 = Int64.ofInt v := q3.2.1
    rw [hq]
    simp (disch := omega) only [f_X10_qTold_j168, p, n_i8, n_i16, n_0, n_31, n_add, n_sub, n_mul, n_neg, n_div, n_rem, n_le_t, n_le_f, n_lt_t, n_lt_f, n_eq_t, n_eq_f, n_cl, n_gd, n_gdt, n_nz, Int.reduceToNat, Int.reduceAdd, Int.reduceSub, Int.reduceMul, Int.reduceNeg, Int.reduceLT, Int.reduceLE, Int.reduceEq, Int.reduceDiv, Int.reduceMod, Nat.reduceAdd, Nat.reduceMul, ↓reduceIte, Int.toNat_zero]
    rfl
