/-! L3: options and games ahead of the reference -/
def aOpt (B : Brd) (G : Gam) (k w : Int) : Int := if (0 ≤ w ∧ w ≤ 4) ∧ ¬ (chz B G k).1 = -1 then (if w = 0 then (chz B G k).2.2.2.1 else if w = 1 then (chz B G k).2.2.2.2 % bW B else if w = 2 then (chz B G k).2.2.2.2 / bW B else if w = 3 then tkb B G (chz B G k).2.2.2.2 else ckv B G (chz B G k).2.2.2.1 (chz B G k).2.2.2.2) else -1
theorem m_option {B : Brd} {G : Gam} {s : ST} (h : MA B G s) {k w : Int} (k1 : -2147483648 ≤ k) (k2 : k ≤ 2147483647) (w1 : -2147483648 ≤ w) (w2 : w ≤ 2147483647) : ∃ s', f_X10_option (Int32.ofInt k) (Int32.ofInt w) s = some (Int32.ofInt (aOpt B G k w), s') ∧ QF s s' := by
  have hj := m_isIn (s := s) (v := w) (a := 0) (b := 4) (by omega) (by omega) (by omega) (by omega) (by omega) (by omega)
  unfold aOpt
  by_cases e : 0 ≤ w ∧ w ≤ 4
  · rw [decide_eq_true e] at hj
    obtain ⟨s1, q1, q2, q3⟩ := m_chooses h k1 k2
    have hok := okA_chz (B := B) (G := G) h.1.1.1.2.2.2.2.2.2.1 k2
    have hA1 := MA_Sd h q2
    generalize hA : chz B G k = A at *
    have c68 := q3.1
    by_cases e1 : A.1 = -1
    · rw [if_neg (fun c => c.2 e1)]
      rw [e1] at c68
      refine ⟨s1, ?_, q2.qf⟩
      simp (disch := omega) only [f_X10_option, hj, q1, c68, bI_t, n_i8, n_i16, n_0, n_31, n_add, n_sub, n_mul, n_neg, n_div, n_rem, n_le_t, n_le_f, n_lt_t, n_lt_f, n_eq_t, n_eq_f, n_cl, n_gd, n_gdt, n_nz, Int.reduceToNat, Int.reduceAdd, Int.reduceSub, Int.reduceMul, Int.reduceNeg, Int.reduceLT, Int.reduceLE, Int.reduceEq, Int.reduceDiv, Int.reduceMod, Nat.reduceAdd, Nat.reduceMul, ↓reduceIte, l_0, l_1, l_00, l_i, l_j, l_add, l_sub, l_mul, l_gt, l_ceq, l_clt, l_nz, u_eq, u_no, u_nk, u_ek, u_2, u_3, j_1, j_3, j_eq, j_no, j_nk, lt_def, Option.bind_some, n_l1, n_l2, n_l3, n_l4, n_l5, n_l6, n_l7, n_l8, n_l9, n_l10, n_l11, n_l12, n_l13, n_l14, n_l15, n_l16, n_l17, n_l18, n_l19, n_l20, n_l21, n_l22, n_l23, n_l24, n_l25, n_l26, n_l27, n_l28, n_l29, n_l30, n_l31, n_l32, n_l33, n_l34, n_l35, n_l36, n_l37, n_l38, n_l39, n_l40, n_l41, n_l42, n_l43, n_l44, n_l45, n_l46, n_l47, n_l48, n_l49, n_l50, n_l51, n_l52, n_l53, n_l54, n_l55, n_l56, n_l57, n_l58, n_l59, n_l60]
    · rw [if_pos ⟨e, e1⟩]
      rcases hok with hok | ⟨a1, m1, m2, p1, p2, hsd, hgo⟩
      · exact absurd hok e1
      have c69 := (q3.2 e1).1
      have c70 := (q3.2 e1).2
      generalize hm : A.2.2.2.1 = m at *
      generalize hk : A.2.2.2.2 = p at *
      have hM : bM B ≤ 8 := h.1.1.1.2.2.2.2.2.2.2.1; have hM0 : 0 ≤ bM B := h.1.1.1.2.2.2.2.2.2.1
      have hW : bW B ≤ 5 := h.1.1.1.2.1; have hH : bH B ≤ 5 := h.1.1.1.2.2.2.1; have hW0 : 0 ≤ bW B := h.1.1.1.1; have hH0 : 0 ≤ bH B := h.1.1.1.2.2.1; have hWH : bW B * bH B ≤ 25 := (Int.mul_le_mul hW hH hH0 (by omega)); have hWH0 : 0 ≤ bW B * bH B := Int.mul_nonneg hW0 hH0
      have hWp : 0 < bW B := by
        rcases Int.lt_or_eq_of_le hW0 with e | e
        · exact e
        · rw [← e] at p2; omega
      have x1 : 0 ≤ p % bW B := Int.emod_nonneg _ (by omega)
      have x2 : p % bW B < bW B := Int.emod_lt_of_pos _ hWp
      have y1 : 0 ≤ p / bW B := Int.ediv_nonneg p1 hW0
      have y2 : p / bW B < bH B := Int.ediv_lt_of_lt_mul hWp (by rw [Int.mul_comm]; exact p2)
      have hR : p - p / bW B * bW B = p % bW B := n_rem p (bW B)
      have c4 : s1.1 103 4 = Int32.ofInt (bW B) := hA1.2.2.1.1.2.2.2.1
      have hmA := m_manAt hA1 (a := p % bW B) (b := p / bW B) (by omega) (by omega) (by omega) (by omega)
      have hsp := mAt_spec (B := B) hM0 G (p % bW B) (p / bW B)
      have htk : tkm B G p = mAt B G (p % bW B) (p / bW B) := rfl
      rw [← htk] at hmA hsp
      obtain ⟨s2, r1, r2, -, r3⟩ := m_try hA1 (L := 4) (by omega) (by omega) m1 m2 p1 p2 hgo
      have r2 : MA B (mvK B G m p) s2 := r2
      have hs2 := m_side r2
      have hgs2 := r2.2.1.1.2.2
      have hck := m_isCheck r2 hgs2.1 hgs2.2
      obtain ⟨s3, r4, r5⟩ := r3 s2 1 0 (Sc.rf 1 0 s2) (by omega) 0 4 (by omega) (by omega) (by omega) (by omega)
      have d69 : s3.1 65 69 = Int32.ofInt m := (r5.1 65 69 (by omega)).trans c69
      refine ⟨s3, ?_, q2.qf.tr r5.qf⟩
      have hck2 : ckv B G m p = if chk B (mvK B G m p) (gs (mvK B G m p)) = true then 1 else 0 := rfl
      have hneg : (Int32.ofInt A.1 = Int32.ofInt (-1)) = False := n_eq_f e1 (by omega) (by omega) (by omega) (by omega)
      have hw : w = 0 ∨ w = 1 ∨ w = 2 ∨ w = 3 ∨ w = 4 := by omega
      have htb : tkb B G p = if tkm B G p = -1 then 255 else tkm B G p := rfl
      cases ec : chk B (mvK B G m p) (gs (mvK B G m p)) with
      | true =>
        rw [ec, if_pos rfl] at hck2
        rw [ec] at hck
        rcases hw with rfl | rfl | rfl | rfl | rfl
        · simp (disch := omega) only [f_X10_option, f_X10_option_j94, hj, q1, c68, hneg, c4, c70, hR, hmA, c69, r1, hs2, hck, r4, d69, bI_t, n_i8, n_i16, n_0, n_31, n_add, n_sub, n_mul, n_neg, n_div, n_rem, n_le_t, n_le_f, n_lt_t, n_lt_f, n_eq_t, n_eq_f, n_cl, n_gd, n_gdt, n_nz, Int.reduceToNat, Int.reduceAdd, Int.reduceSub, Int.reduceMul, Int.reduceNeg, Int.reduceLT, Int.reduceLE, Int.reduceEq, Int.reduceDiv, Int.reduceMod, Nat.reduceAdd, Nat.reduceMul, ↓reduceIte, l_0, l_1, l_00, l_i, l_j, l_add, l_sub, l_mul, l_gt, l_ceq, l_clt, l_nz, u_eq, u_no, u_nk, u_ek, u_2, u_3, j_1, j_3, j_eq, j_no, j_nk, lt_def, Option.bind_some, n_l1, n_l2, n_l3, n_l4, n_l5, n_l6, n_l7, n_l8, n_l9, n_l10, n_l11, n_l12, n_l13, n_l14, n_l15, n_l16, n_l17, n_l18, n_l19, n_l20, n_l21, n_l22, n_l23, n_l24, n_l25, n_l26, n_l27, n_l28, n_l29, n_l30, n_l31, n_l32, n_l33, n_l34, n_l35, n_l36, n_l37, n_l38, n_l39, n_l40, n_l41, n_l42, n_l43, n_l44, n_l45, n_l46, n_l47, n_l48, n_l49, n_l50, n_l51, n_l52, n_l53, n_l54, n_l55, n_l56, n_l57, n_l58, n_l59, n_l60, Int.toNat_one]
        · simp (disch := omega) only [f_X10_option, f_X10_option_j94, hj, q1, c68, hneg, c4, c70, hR, hmA, c69, r1, hs2, hck, r4, d69, bI_t, n_i8, n_i16, n_0, n_31, n_add, n_sub, n_mul, n_neg, n_div, n_rem, n_le_t, n_le_f, n_lt_t, n_lt_f, n_eq_t, n_eq_f, n_cl, n_gd, n_gdt, n_nz, Int.reduceToNat, Int.reduceAdd, Int.reduceSub, Int.reduceMul, Int.reduceNeg, Int.reduceLT, Int.reduceLE, Int.reduceEq, Int.reduceDiv, Int.reduceMod, Nat.reduceAdd, Nat.reduceMul, ↓reduceIte, l_0, l_1, l_00, l_i, l_j, l_add, l_sub, l_mul, l_gt, l_ceq, l_clt, l_nz, u_eq, u_no, u_nk, u_ek, u_2, u_3, j_1, j_3, j_eq, j_no, j_nk, lt_def, Option.bind_some, n_l1, n_l2, n_l3, n_l4, n_l5, n_l6, n_l7, n_l8, n_l9, n_l10, n_l11, n_l12, n_l13, n_l14, n_l15, n_l16, n_l17, n_l18, n_l19, n_l20, n_l21, n_l22, n_l23, n_l24, n_l25, n_l26, n_l27, n_l28, n_l29, n_l30, n_l31, n_l32, n_l33, n_l34, n_l35, n_l36, n_l37, n_l38, n_l39, n_l40, n_l41, n_l42, n_l43, n_l44, n_l45, n_l46, n_l47, n_l48, n_l49, n_l50, n_l51, n_l52, n_l53, n_l54, n_l55, n_l56, n_l57, n_l58, n_l59, n_l60, Int.toNat_one]
        · simp (disch := omega) only [f_X10_option, f_X10_option_j94, hj, q1, c68, hneg, c4, c70, hR, hmA, c69, r1, hs2, hck, r4, d69, bI_t, n_i8, n_i16, n_0, n_31, n_add, n_sub, n_mul, n_neg, n_div, n_rem, n_le_t, n_le_f, n_lt_t, n_lt_f, n_eq_t, n_eq_f, n_cl, n_gd, n_gdt, n_nz, Int.reduceToNat, Int.reduceAdd, Int.reduceSub, Int.reduceMul, Int.reduceNeg, Int.reduceLT, Int.reduceLE, Int.reduceEq, Int.reduceDiv, Int.reduceMod, Nat.reduceAdd, Nat.reduceMul, ↓reduceIte, l_0, l_1, l_00, l_i, l_j, l_add, l_sub, l_mul, l_gt, l_ceq, l_clt, l_nz, u_eq, u_no, u_nk, u_ek, u_2, u_3, j_1, j_3, j_eq, j_no, j_nk, lt_def, Option.bind_some, n_l1, n_l2, n_l3, n_l4, n_l5, n_l6, n_l7, n_l8, n_l9, n_l10, n_l11, n_l12, n_l13, n_l14, n_l15, n_l16, n_l17, n_l18, n_l19, n_l20, n_l21, n_l22, n_l23, n_l24, n_l25, n_l26, n_l27, n_l28, n_l29, n_l30, n_l31, n_l32, n_l33, n_l34, n_l35, n_l36, n_l37, n_l38, n_l39, n_l40, n_l41, n_l42, n_l43, n_l44, n_l45, n_l46, n_l47, n_l48, n_l49, n_l50, n_l51, n_l52, n_l53, n_l54, n_l55, n_l56, n_l57, n_l58, n_l59, n_l60, Int.toNat_one]
        · by_cases et : tkm B G p = -1
          · rw [if_pos et] at htb
            rw [et] at hmA
            simp (disch := omega) only [f_X10_option, f_X10_option_j94, hj, q1, c68, hneg, c4, c70, hR, hmA, htb, c69, r1, hs2, hck, r4, d69, bI_t, n_i8, n_i16, n_0, n_31, n_add, n_sub, n_mul, n_neg, n_div, n_rem, n_le_t, n_le_f, n_lt_t, n_lt_f, n_eq_t, n_eq_f, n_cl, n_gd, n_gdt, n_nz, Int.reduceToNat, Int.reduceAdd, Int.reduceSub, Int.reduceMul, Int.reduceNeg, Int.reduceLT, Int.reduceLE, Int.reduceEq, Int.reduceDiv, Int.reduceMod, Nat.reduceAdd, Nat.reduceMul, ↓reduceIte, l_0, l_1, l_00, l_i, l_j, l_add, l_sub, l_mul, l_gt, l_ceq, l_clt, l_nz, u_eq, u_no, u_nk, u_ek, u_2, u_3, j_1, j_3, j_eq, j_no, j_nk, lt_def, Option.bind_some, n_l1, n_l2, n_l3, n_l4, n_l5, n_l6, n_l7, n_l8, n_l9, n_l10, n_l11, n_l12, n_l13, n_l14, n_l15, n_l16, n_l17, n_l18, n_l19, n_l20, n_l21, n_l22, n_l23, n_l24, n_l25, n_l26, n_l27, n_l28, n_l29, n_l30, n_l31, n_l32, n_l33, n_l34, n_l35, n_l36, n_l37, n_l38, n_l39, n_l40, n_l41, n_l42, n_l43, n_l44, n_l45, n_l46, n_l47, n_l48, n_l49, n_l50, n_l51, n_l52, n_l53, n_l54, n_l55, n_l56, n_l57, n_l58, n_l59, n_l60, Int.toNat_one]
          · rw [if_neg et] at htb
            simp (disch := omega) only [f_X10_option, f_X10_option_j94, hj, q1, c68, hneg, c4, c70, hR, hmA, htb, c69, r1, hs2, hck, r4, d69, bI_t, n_i8, n_i16, n_0, n_31, n_add, n_sub, n_mul, n_neg, n_div, n_rem, n_le_t, n_le_f, n_lt_t, n_lt_f, n_eq_t, n_eq_f, n_cl, n_gd, n_gdt, n_nz, Int.reduceToNat, Int.reduceAdd, Int.reduceSub, Int.reduceMul, Int.reduceNeg, Int.reduceLT, Int.reduceLE, Int.reduceEq, Int.reduceDiv, Int.reduceMod, Nat.reduceAdd, Nat.reduceMul, ↓reduceIte, l_0, l_1, l_00, l_i, l_j, l_add, l_sub, l_mul, l_gt, l_ceq, l_clt, l_nz, u_eq, u_no, u_nk, u_ek, u_2, u_3, j_1, j_3, j_eq, j_no, j_nk, lt_def, Option.bind_some, n_l1, n_l2, n_l3, n_l4, n_l5, n_l6, n_l7, n_l8, n_l9, n_l10, n_l11, n_l12, n_l13, n_l14, n_l15, n_l16, n_l17, n_l18, n_l19, n_l20, n_l21, n_l22, n_l23, n_l24, n_l25, n_l26, n_l27, n_l28, n_l29, n_l30, n_l31, n_l32, n_l33, n_l34, n_l35, n_l36, n_l37, n_l38, n_l39, n_l40, n_l41, n_l42, n_l43, n_l44, n_l45, n_l46, n_l47, n_l48, n_l49, n_l50, n_l51, n_l52, n_l53, n_l54, n_l55, n_l56, n_l57, n_l58, n_l59, n_l60, Int.toNat_one]
        · simp (disch := omega) only [f_X10_option, f_X10_option_j94, hj, q1, c68, hneg, c4, c70, hR, hmA, c69, r1, hs2, hck, hck2, r4, d69, bI_t, n_i8, n_i16, n_0, n_31, n_add, n_sub, n_mul, n_neg, n_div, n_rem, n_le_t, n_le_f, n_lt_t, n_lt_f, n_eq_t, n_eq_f, n_cl, n_gd, n_gdt, n_nz, Int.reduceToNat, Int.reduceAdd, Int.reduceSub, Int.reduceMul, Int.reduceNeg, Int.reduceLT, Int.reduceLE, Int.reduceEq, Int.reduceDiv, Int.reduceMod, Nat.reduceAdd, Nat.reduceMul, ↓reduceIte, l_0, l_1, l_00, l_i, l_j, l_add, l_sub, l_mul, l_gt, l_ceq, l_clt, l_nz, u_eq, u_no, u_nk, u_ek, u_2, u_3, j_1, j_3, j_eq, j_no, j_nk, lt_def, Option.bind_some, n_l1, n_l2, n_l3, n_l4, n_l5, n_l6, n_l7, n_l8, n_l9, n_l10, n_l11, n_l12, n_l13, n_l14, n_l15, n_l16, n_l17, n_l18, n_l19, n_l20, n_l21, n_l22, n_l23, n_l24, n_l25, n_l26, n_l27, n_l28, n_l29, n_l30, n_l31, n_l32, n_l33, n_l34, n_l35, n_l36, n_l37, n_l38, n_l39, n_l40, n_l41, n_l42, n_l43, n_l44, n_l45, n_l46, n_l47, n_l48, n_l49, n_l50, n_l51, n_l52, n_l53, n_l54, n_l55, n_l56, n_l57, n_l58, n_l59, n_l60, Int.toNat_one]
      | false =>
        rw [ec, if_neg (by decide)] at hck2
        rw [ec] at hck
        rcases hw with rfl | rfl | rfl | rfl | rfl
        · simp (disch := omega) only [f_X10_option, f_X10_option_j94, hj, q1, c68, hneg, c4, c70, hR, hmA, c69, r1, hs2, hck, r4, d69, bI_t, bI_f, n_i8, n_i16, n_0, n_31, n_add, n_sub, n_mul, n_neg, n_div, n_rem, n_le_t, n_le_f, n_lt_t, n_lt_f, n_eq_t, n_eq_f, n_cl, n_gd, n_gdt, n_nz, Int.reduceToNat, Int.reduceAdd, Int.reduceSub, Int.reduceMul, Int.reduceNeg, Int.reduceLT, Int.reduceLE, Int.reduceEq, Int.reduceDiv, Int.reduceMod, Nat.reduceAdd, Nat.reduceMul, ↓reduceIte, l_0, l_1, l_00, l_i, l_j, l_add, l_sub, l_mul, l_gt, l_ceq, l_clt, l_nz, u_eq, u_no, u_nk, u_ek, u_2, u_3, j_1, j_3, j_eq, j_no, j_nk, lt_def, Option.bind_some, n_l1, n_l2, n_l3, n_l4, n_l5, n_l6, n_l7, n_l8, n_l9, n_l10, n_l11, n_l12, n_l13, n_l14, n_l15, n_l16, n_l17, n_l18, n_l19, n_l20, n_l21, n_l22, n_l23, n_l24, n_l25, n_l26, n_l27, n_l28, n_l29, n_l30, n_l31, n_l32, n_l33, n_l34, n_l35, n_l36, n_l37, n_l38, n_l39, n_l40, n_l41, n_l42, n_l43, n_l44, n_l45, n_l46, n_l47, n_l48, n_l49, n_l50, n_l51, n_l52, n_l53, n_l54, n_l55, n_l56, n_l57, n_l58, n_l59, n_l60, Int.toNat_one]
        · simp (disch := omega) only [f_X10_option, f_X10_option_j94, hj, q1, c68, hneg, c4, c70, hR, hmA, c69, r1, hs2, hck, r4, d69, bI_t, bI_f, n_i8, n_i16, n_0, n_31, n_add, n_sub, n_mul, n_neg, n_div, n_rem, n_le_t, n_le_f, n_lt_t, n_lt_f, n_eq_t, n_eq_f, n_cl, n_gd, n_gdt, n_nz, Int.reduceToNat, Int.reduceAdd, Int.reduceSub, Int.reduceMul, Int.reduceNeg, Int.reduceLT, Int.reduceLE, Int.reduceEq, Int.reduceDiv, Int.reduceMod, Nat.reduceAdd, Nat.reduceMul, ↓reduceIte, l_0, l_1, l_00, l_i, l_j, l_add, l_sub, l_mul, l_gt, l_ceq, l_clt, l_nz, u_eq, u_no, u_nk, u_ek, u_2, u_3, j_1, j_3, j_eq, j_no, j_nk, lt_def, Option.bind_some, n_l1, n_l2, n_l3, n_l4, n_l5, n_l6, n_l7, n_l8, n_l9, n_l10, n_l11, n_l12, n_l13, n_l14, n_l15, n_l16, n_l17, n_l18, n_l19, n_l20, n_l21, n_l22, n_l23, n_l24, n_l25, n_l26, n_l27, n_l28, n_l29, n_l30, n_l31, n_l32, n_l33, n_l34, n_l35, n_l36, n_l37, n_l38, n_l39, n_l40, n_l41, n_l42, n_l43, n_l44, n_l45, n_l46, n_l47, n_l48, n_l49, n_l50, n_l51, n_l52, n_l53, n_l54, n_l55, n_l56, n_l57, n_l58, n_l59, n_l60, Int.toNat_one]
        · simp (disch := omega) only [f_X10_option, f_X10_option_j94, hj, q1, c68, hneg, c4, c70, hR, hmA, c69, r1, hs2, hck, r4, d69, bI_t, bI_f, n_i8, n_i16, n_0, n_31, n_add, n_sub, n_mul, n_neg, n_div, n_rem, n_le_t, n_le_f, n_lt_t, n_lt_f, n_eq_t, n_eq_f, n_cl, n_gd, n_gdt, n_nz, Int.reduceToNat, Int.reduceAdd, Int.reduceSub, Int.reduceMul, Int.reduceNeg, Int.reduceLT, Int.reduceLE, Int.reduceEq, Int.reduceDiv, Int.reduceMod, Nat.reduceAdd, Nat.reduceMul, ↓reduceIte, l_0, l_1, l_00, l_i, l_j, l_add, l_sub, l_mul, l_gt, l_ceq, l_clt, l_nz, u_eq, u_no, u_nk, u_ek, u_2, u_3, j_1, j_3, j_eq, j_no, j_nk, lt_def, Option.bind_some, n_l1, n_l2, n_l3, n_l4, n_l5, n_l6, n_l7, n_l8, n_l9, n_l10, n_l11, n_l12, n_l13, n_l14, n_l15, n_l16, n_l17, n_l18, n_l19, n_l20, n_l21, n_l22, n_l23, n_l24, n_l25, n_l26, n_l27, n_l28, n_l29, n_l30, n_l31, n_l32, n_l33, n_l34, n_l35, n_l36, n_l37, n_l38, n_l39, n_l40, n_l41, n_l42, n_l43, n_l44, n_l45, n_l46, n_l47, n_l48, n_l49, n_l50, n_l51, n_l52, n_l53, n_l54, n_l55, n_l56, n_l57, n_l58, n_l59, n_l60, Int.toNat_one]
        · by_cases et : tkm B G p = -1
          · rw [if_pos et] at htb
            rw [et] at hmA
            simp (disch := omega) only [f_X10_option, f_X10_option_j94, hj, q1, c68, hneg, c4, c70, hR, hmA, htb, c69, r1, hs2, hck, r4, d69, bI_t, bI_f, n_i8, n_i16, n_0, n_31, n_add, n_sub, n_mul, n_neg, n_div, n_rem, n_le_t, n_le_f, n_lt_t, n_lt_f, n_eq_t, n_eq_f, n_cl, n_gd, n_gdt, n_nz, Int.reduceToNat, Int.reduceAdd, Int.reduceSub, Int.reduceMul, Int.reduceNeg, Int.reduceLT, Int.reduceLE, Int.reduceEq, Int.reduceDiv, Int.reduceMod, Nat.reduceAdd, Nat.reduceMul, ↓reduceIte, l_0, l_1, l_00, l_i, l_j, l_add, l_sub, l_mul, l_gt, l_ceq, l_clt, l_nz, u_eq, u_no, u_nk, u_ek, u_2, u_3, j_1, j_3, j_eq, j_no, j_nk, lt_def, Option.bind_some, n_l1, n_l2, n_l3, n_l4, n_l5, n_l6, n_l7, n_l8, n_l9, n_l10, n_l11, n_l12, n_l13, n_l14, n_l15, n_l16, n_l17, n_l18, n_l19, n_l20, n_l21, n_l22, n_l23, n_l24, n_l25, n_l26, n_l27, n_l28, n_l29, n_l30, n_l31, n_l32, n_l33, n_l34, n_l35, n_l36, n_l37, n_l38, n_l39, n_l40, n_l41, n_l42, n_l43, n_l44, n_l45, n_l46, n_l47, n_l48, n_l49, n_l50, n_l51, n_l52, n_l53, n_l54, n_l55, n_l56, n_l57, n_l58, n_l59, n_l60, Int.toNat_one]
          · rw [if_neg et] at htb
            simp (disch := omega) only [f_X10_option, f_X10_option_j94, hj, q1, c68, hneg, c4, c70, hR, hmA, htb, c69, r1, hs2, hck, r4, d69, bI_t, bI_f, n_i8, n_i16, n_0, n_31, n_add, n_sub, n_mul, n_neg, n_div, n_rem, n_le_t, n_le_f, n_lt_t, n_lt_f, n_eq_t, n_eq_f, n_cl, n_gd, n_gdt, n_nz, Int.reduceToNat, Int.reduceAdd, Int.reduceSub, Int.reduceMul, Int.reduceNeg, Int.reduceLT, Int.reduceLE, Int.reduceEq, Int.reduceDiv, Int.reduceMod, Nat.reduceAdd, Nat.reduceMul, ↓reduceIte, l_0, l_1, l_00, l_i, l_j, l_add, l_sub, l_mul, l_gt, l_ceq, l_clt, l_nz, u_eq, u_no, u_nk, u_ek, u_2, u_3, j_1, j_3, j_eq, j_no, j_nk, lt_def, Option.bind_some, n_l1, n_l2, n_l3, n_l4, n_l5, n_l6, n_l7, n_l8, n_l9, n_l10, n_l11, n_l12, n_l13, n_l14, n_l15, n_l16, n_l17, n_l18, n_l19, n_l20, n_l21, n_l22, n_l23, n_l24, n_l25, n_l26, n_l27, n_l28, n_l29, n_l30, n_l31, n_l32, n_l33, n_l34, n_l35, n_l36, n_l37, n_l38, n_l39, n_l40, n_l41, n_l42, n_l43, n_l44, n_l45, n_l46, n_l47, n_l48, n_l49, n_l50, n_l51, n_l52, n_l53, n_l54, n_l55, n_l56, n_l57, n_l58, n_l59, n_l60, Int.toNat_one]
        · simp (disch := omega) only [f_X10_option, f_X10_option_j94, hj, q1, c68, hneg, c4, c70, hR, hmA, c69, r1, hs2, hck, hck2, r4, d69, bI_t, bI_f, n_i8, n_i16, n_0, n_31, n_add, n_sub, n_mul, n_neg, n_div, n_rem, n_le_t, n_le_f, n_lt_t, n_lt_f, n_eq_t, n_eq_f, n_cl, n_gd, n_gdt, n_nz, Int.reduceToNat, Int.reduceAdd, Int.reduceSub, Int.reduceMul, Int.reduceNeg, Int.reduceLT, Int.reduceLE, Int.reduceEq, Int.reduceDiv, Int.reduceMod, Nat.reduceAdd, Nat.reduceMul, ↓reduceIte, l_0, l_1, l_00, l_i, l_j, l_add, l_sub, l_mul, l_gt, l_ceq, l_clt, l_nz, u_eq, u_no, u_nk, u_ek, u_2, u_3, j_1, j_3, j_eq, j_no, j_nk, lt_def, Option.bind_some, n_l1, n_l2, n_l3, n_l4, n_l5, n_l6, n_l7, n_l8, n_l9, n_l10, n_l11, n_l12, n_l13, n_l14, n_l15, n_l16, n_l17, n_l18, n_l19, n_l20, n_l21, n_l22, n_l23, n_l24, n_l25, n_l26, n_l27, n_l28, n_l29, n_l30, n_l31, n_l32, n_l33, n_l34, n_l35, n_l36, n_l37, n_l38, n_l39, n_l40, n_l41, n_l42, n_l43, n_l44, n_l45, n_l46, n_l47, n_l48, n_l49, n_l50, n_l51, n_l52, n_l53, n_l54, n_l55, n_l56, n_l57, n_l58, n_l59, n_l60, Int.toNat_one]
  · rw [decide_eq_false e] at hj
    rw [if_neg (fun c => e c.1)]
    refine ⟨s, ?_, QF.rf s⟩
    simp (disch := omega) only [f_X10_option, hj, bI_f, n_i8, n_i16, n_0, n_31, n_add, n_sub, n_mul, n_neg, n_div, n_rem, n_le_t, n_le_f, n_lt_t, n_lt_f, n_eq_t, n_eq_f, n_cl, n_gd, n_gdt, n_nz, Int.reduceToNat, Int.reduceAdd, Int.reduceSub, Int.reduceMul, Int.reduceNeg, Int.reduceLT, Int.reduceLE, Int.reduceEq, Int.reduceDiv, Int.reduceMod, Nat.reduceAdd, Nat.reduceMul, ↓reduceIte, l_0, l_1, l_00, l_i, l_j, l_add, l_sub, l_mul, l_gt, l_ceq, l_clt, l_nz, u_eq, u_no, u_nk, u_ek, u_2, u_3, j_1, j_3, j_eq, j_no, j_nk, lt_def, Option.bind_some, n_l1, n_l2, n_l3, n_l4, n_l5, n_l6, n_l7, n_l8, n_l9, n_l10, n_l11, n_l12, n_l13, n_l14, n_l15, n_l16, n_l17, n_l18, n_l19, n_l20, n_l21, n_l22, n_l23, n_l24, n_l25, n_l26, n_l27, n_l28, n_l29, n_l30, n_l31, n_l32, n_l33, n_l34, n_l35, n_l36, n_l37, n_l38, n_l39, n_l40, n_l41, n_l42, n_l43, n_l44, n_l45, n_l46, n_l47, n_l48, n_l49, n_l50, n_l51, n_l52, n_l53, n_l54, n_l55, n_l56, n_l57, n_l58, n_l59, n_l60]
def aForced (B : Brd) (G : Gam) (brd : Bool) : Int := if brd = true then fcd B G else -1
theorem m_forcedQ {B : Brd} {G : Gam} {brd : Bool} {s : ST} (hR : RS B G brd s) : ∃ s', f_X10_forced s = some (Int32.ofInt (aForced B G brd), s') ∧ QF s s' := by
  have hb := hR.2.1
  cases brd with
  | false =>
    refine ⟨s, ?_, QF.rf s⟩
    simp (disch := omega) only [f_X10_forced, aForced, hb, bI_f, Bool.false_eq_true, n_i8, n_i16, n_0, n_31, n_add, n_sub, n_mul, n_neg, n_div, n_rem, n_le_t, n_le_f, n_lt_t, n_lt_f, n_eq_t, n_eq_f, n_cl, n_gd, n_gdt, n_nz, Int.reduceToNat, Int.reduceAdd, Int.reduceSub, Int.reduceMul, Int.reduceNeg, Int.reduceLT, Int.reduceLE, Int.reduceEq, Int.reduceDiv, Int.reduceMod, Nat.reduceAdd, Nat.reduceMul, ↓reduceIte, u_eq, u_no, u_nk, u_ek, u_2, u_3, j_1, j_3, j_eq, j_no, j_nk, lt_def, Option.bind_some]
  | true =>
    obtain ⟨s', q1, q2⟩ := m_forced hR.1.1 hb
    exact ⟨s', q2, q1.qf⟩
/-- games ahead: begun -/
theorem m_think {B : Brd} {G : Gam} {brd : Bool} {s : ST} (hR : RS B G brd s) : ∃ s1, f_X10_putsAside s = some s1 ∧ TH s s1 ∧ MA B G s1 ∧ MH B s1 ∧ DQ (-1) 0 s1 ∧ s1.1 65 78 = s.1 65 78 ∧ s1.2 = s.2 := by
  obtain ⟨s1, q1, q2, q3, q4⟩ := m_putsAside s
  exact ⟨s1, q1, q2, MA_fr hR.1.1 (fun o k hk => q3 o k (by omega) (by omega)), MH_fr hR.1.2.1 (fun o k o1 o2 => q3 o k (by omega) (by omega)), ⟨(q3 65 78 (by omega) (by omega)).trans hR.2.2.2.1, Or.inl rfl⟩, q3 65 78 (by omega) (by omega), q4⟩
def ahd (G : Gam) (brd : Bool) (n a b : Int) : Prop := brd = true ∧ (a ≤ n ∧ n ≤ b) ∧ gd_ G + n ≤ 999
theorem m_isAheadR {B : Brd} {G : Gam} {brd : Bool} {s : ST} (hR : RS B G brd s) {n a b : Int} (n1 : -2147483648 ≤ n) (n2 : n ≤ 2147483647) (a1 : 0 ≤ a) (a2 : a ≤ 100) (b1 : 0 ≤ b) (b2 : b ≤ 100) : (ahd G brd n a b → f_X10_isAhead (Int32.ofInt n) (Int32.ofInt a) (Int32.ofInt b) s = some (Int32.ofInt 1, s)) ∧ (¬ ahd G brd n a b → f_X10_isAhead (Int32.ofInt n) (Int32.ofInt a) (Int32.ofInt b) s = some (Int32.ofInt 0, s)) := by
  have hb := hR.2.1
  cases brd with
  | false =>
    refine ⟨fun c => (by cases c.1), fun _ => ?_⟩
    simp (disch := omega) only [f_X10_isAhead, hb, bI_f, n_i8, n_i16, n_0, n_31, n_add, n_sub, n_mul, n_neg, n_div, n_rem, n_le_t, n_le_f, n_lt_t, n_lt_f, n_eq_t, n_eq_f, n_cl, n_gd, n_gdt, n_nz, Int.reduceToNat, Int.reduceAdd, Int.reduceSub, Int.reduceMul, Int.reduceNeg, Int.reduceLT, Int.reduceLE, Int.reduceEq, Int.reduceDiv, Int.reduceMod, Nat.reduceAdd, Nat.reduceMul, ↓reduceIte]
  | true =>
    have h := m_isAhead hR.1.1 hb n1 n2 a1 a2 b1 b2
    refine ⟨fun c => ?_, fun c => ?_⟩
    · rw [h, decide_eq_true c.2]; rfl
    · rw [h, decide_eq_false (fun d => c ⟨rfl, d⟩)]; rfl
def aLater (B : Brd) (G : Gam) (w : Int) : Int := if w = 0 then nOut B G 0 else if w = 1 then nOut B G 1 else if w = 2 then brn B G else b1 (ovr B G)
theorem m_later {B : Brd} {G : Gam} {brd : Bool} {s : ST} (hR : RS B G brd s) {n w : Int} (n1 : -2147483648 ≤ n) (n2 : n ≤ 2147483647) (w1 : -2147483648 ≤ w) (w2 : w ≤ 2147483647) : (ahd G brd n 0 20 ∧ (0 ≤ w ∧ w ≤ 3) → ∃ s', f_X10_later (Int32.ofInt n) (Int32.ofInt w) s = some (Int32.ofInt (aLater B (daysN B (-1) 0 n.toNat G) w), s') ∧ QF s s') ∧ (¬ (ahd G brd n 0 20 ∧ (0 ≤ w ∧ w ≤ 3)) → f_X10_later (Int32.ofInt n) (Int32.ofInt w) s = some (Int32.ofInt (-1), s)) := by
  have hi := m_isAheadR hR n1 n2 (a := 0) (b := 20) (by omega) (by omega) (by omega) (by omega)
  have hj := m_isIn (s := s) (v := w) (a := 0) (b := 3) (by omega) (by omega) (by omega) (by omega) (by omega) (by omega)
  constructor
  · intro ⟨c1, c2⟩
    have hi := hi.1 c1
    rw [decide_eq_true c2] at hj
    obtain ⟨s1, q1, q2, q3, q4, q5, q6, -⟩ := m_think hR
    obtain ⟨s2, r1, r2, r3⟩ := m_daysGo q3 q4 (hR.2.2.2.2.1 c1.1).1 hR.1.2.2 q5 q2.1 (N := n) (by have := c1.2.1; omega) (by have := c1.2.1; omega) (by omega) (by omega) (Or.inl rfl) (by have := c1.2.2; omega)
    obtain ⟨s3, t1, t2, -⟩ := m_takesBack (TH_fd q2 r2) hR.2.2.1 ((r2.1 65 78 (by omega) (by omega) (by omega)).trans q6)
    refine ⟨s3, ?_, t2⟩
    have hw : w = 0 ∨ w = 1 ∨ w = 2 ∨ w = 3 := by omega
    rcases hw with rfl | rfl | rfl | rfl
    · have v := m_menOf r3 (t := 0) (by omega) (by omega)
      simp (disch := omega) only [f_X10_later, f_X10_later_j71, aLater, hi, hj, q1, r1, t1, v, bI_t, n_i8, n_i16, n_0, n_31, n_add, n_sub, n_mul, n_neg, n_div, n_rem, n_le_t, n_le_f, n_lt_t, n_lt_f, n_eq_t, n_eq_f, n_cl, n_gd, n_gdt, n_nz, Int.reduceToNat, Int.reduceAdd, Int.reduceSub, Int.reduceMul, Int.reduceNeg, Int.reduceLT, Int.reduceLE, Int.reduceEq, Int.reduceDiv, Int.reduceMod, Nat.reduceAdd, Nat.reduceMul, ↓reduceIte, l_0, l_1, l_00, l_i, l_j, l_add, l_sub, l_mul, l_gt, l_ceq, l_clt, l_nz, u_eq, u_no, u_nk, u_ek, u_2, u_3, j_1, j_3, j_eq, j_no, j_nk, lt_def, Option.bind_some, n_l1, n_l2, n_l3, n_l4, n_l5, n_l6, n_l7, n_l8, n_l9, n_l10, n_l11, n_l12, n_l13, n_l14, n_l15, n_l16, n_l17, n_l18, n_l19, n_l20, n_l21, n_l22, n_l23, n_l24, n_l25, n_l26, n_l27, n_l28, n_l29, n_l30, n_l31, n_l32, n_l33, n_l34, n_l35, n_l36, n_l37, n_l38, n_l39, n_l40, n_l41, n_l42, n_l43, n_l44, n_l45, n_l46, n_l47, n_l48, n_l49, n_l50, n_l51, n_l52, n_l53, n_l54, n_l55, n_l56, n_l57, n_l58, n_l59, n_l60]
    · have v := m_menOf r3 (t := 1) (by omega) (by omega)
      simp (disch := omega) only [f_X10_later, f_X10_later_j71, aLater, hi, hj, q1, r1, t1, v, bI_t, n_i8, n_i16, n_0, n_31, n_add, n_sub, n_mul, n_neg, n_div, n_rem, n_le_t, n_le_f, n_lt_t, n_lt_f, n_eq_t, n_eq_f, n_cl, n_gd, n_gdt, n_nz, Int.reduceToNat, Int.reduceAdd, Int.reduceSub, Int.reduceMul, Int.reduceNeg, Int.reduceLT, Int.reduceLE, Int.reduceEq, Int.reduceDiv, Int.reduceMod, Nat.reduceAdd, Nat.reduceMul, ↓reduceIte, l_0, l_1, l_00, l_i, l_j, l_add, l_sub, l_mul, l_gt, l_ceq, l_clt, l_nz, u_eq, u_no, u_nk, u_ek, u_2, u_3, j_1, j_3, j_eq, j_no, j_nk, lt_def, Option.bind_some, n_l1, n_l2, n_l3, n_l4, n_l5, n_l6, n_l7, n_l8, n_l9, n_l10, n_l11, n_l12, n_l13, n_l14, n_l15, n_l16, n_l17, n_l18, n_l19, n_l20, n_l21, n_l22, n_l23, n_l24, n_l25, n_l26, n_l27, n_l28, n_l29, n_l30, n_l31, n_l32, n_l33, n_l34, n_l35, n_l36, n_l37, n_l38, n_l39, n_l40, n_l41, n_l42, n_l43, n_l44, n_l45, n_l46, n_l47, n_l48, n_l49, n_l50, n_l51, n_l52, n_l53, n_l54, n_l55, n_l56, n_l57, n_l58, n_l59, n_l60]
    · have v := m_bearAll r3
      simp (disch := omega) only [f_X10_later, f_X10_later_j71, aLater, hi, hj, q1, r1, t1, v, bI_t, n_i8, n_i16, n_0, n_31, n_add, n_sub, n_mul, n_neg, n_div, n_rem, n_le_t, n_le_f, n_lt_t, n_lt_f, n_eq_t, n_eq_f, n_cl, n_gd, n_gdt, n_nz, Int.reduceToNat, Int.reduceAdd, Int.reduceSub, Int.reduceMul, Int.reduceNeg, Int.reduceLT, Int.reduceLE, Int.reduceEq, Int.reduceDiv, Int.reduceMod, Nat.reduceAdd, Nat.reduceMul, ↓reduceIte, l_0, l_1, l_00, l_i, l_j, l_add, l_sub, l_mul, l_gt, l_ceq, l_clt, l_nz, u_eq, u_no, u_nk, u_ek, u_2, u_3, j_1, j_3, j_eq, j_no, j_nk, lt_def, Option.bind_some, n_l1, n_l2, n_l3, n_l4, n_l5, n_l6, n_l7, n_l8, n_l9, n_l10, n_l11, n_l12, n_l13, n_l14, n_l15, n_l16, n_l17, n_l18, n_l19, n_l20, n_l21, n_l22, n_l23, n_l24, n_l25, n_l26, n_l27, n_l28, n_l29, n_l30, n_l31, n_l32, n_l33, n_l34, n_l35, n_l36, n_l37, n_l38, n_l39, n_l40, n_l41, n_l42, n_l43, n_l44, n_l45, n_l46, n_l47, n_l48, n_l49, n_l50, n_l51, n_l52, n_l53, n_l54, n_l55, n_l56, n_l57, n_l58, n_l59, n_l60]
    · have v := m_isOver r3
      cases e : ovr B (daysN B (-1) 0 n.toNat G) with
      | true =>
        rw [e] at v
        simp (disch := omega) only [f_X10_later, f_X10_later_j71, aLater, b1, e, hi, hj, q1, r1, t1, v, bI_t, n_i8, n_i16, n_0, n_31, n_add, n_sub, n_mul, n_neg, n_div, n_rem, n_le_t, n_le_f, n_lt_t, n_lt_f, n_eq_t, n_eq_f, n_cl, n_gd, n_gdt, n_nz, Int.reduceToNat, Int.reduceAdd, Int.reduceSub, Int.reduceMul, Int.reduceNeg, Int.reduceLT, Int.reduceLE, Int.reduceEq, Int.reduceDiv, Int.reduceMod, Nat.reduceAdd, Nat.reduceMul, ↓reduceIte, l_0, l_1, l_00, l_i, l_j, l_add, l_sub, l_mul, l_gt, l_ceq, l_clt, l_nz, u_eq, u_no, u_nk, u_ek, u_2, u_3, j_1, j_3, j_eq, j_no, j_nk, lt_def, Option.bind_some, n_l1, n_l2, n_l3, n_l4, n_l5, n_l6, n_l7, n_l8, n_l9, n_l10, n_l11, n_l12, n_l13, n_l14, n_l15, n_l16, n_l17, n_l18, n_l19, n_l20, n_l21, n_l22, n_l23, n_l24, n_l25, n_l26, n_l27, n_l28, n_l29, n_l30, n_l31, n_l32, n_l33, n_l34, n_l35, n_l36, n_l37, n_l38, n_l39, n_l40, n_l41, n_l42, n_l43, n_l44, n_l45, n_l46, n_l47, n_l48, n_l49, n_l50, n_l51, n_l52, n_l53, n_l54, n_l55, n_l56, n_l57, n_l58, n_l59, n_l60]
      | false =>
        rw [e] at v
        simp (disch := omega) only [f_X10_later, f_X10_later_j71, aLater, b1, e, hi, hj, q1, r1, t1, v, bI_t, bI_f, Bool.false_eq_true, n_i8, n_i16, n_0, n_31, n_add, n_sub, n_mul, n_neg, n_div, n_rem, n_le_t, n_le_f, n_lt_t, n_lt_f, n_eq_t, n_eq_f, n_cl, n_gd, n_gdt, n_nz, Int.reduceToNat, Int.reduceAdd, Int.reduceSub, Int.reduceMul, Int.reduceNeg, Int.reduceLT, Int.reduceLE, Int.reduceEq, Int.reduceDiv, Int.reduceMod, Nat.reduceAdd, Nat.reduceMul, ↓reduceIte, l_0, l_1, l_00, l_i, l_j, l_add, l_sub, l_mul, l_gt, l_ceq, l_clt, l_nz, u_eq, u_no, u_nk, u_ek, u_2, u_3, j_1, j_3, j_eq, j_no, j_nk, lt_def, Option.bind_some, n_l1, n_l2, n_l3, n_l4, n_l5, n_l6, n_l7, n_l8, n_l9, n_l10, n_l11, n_l12, n_l13, n_l14, n_l15, n_l16, n_l17, n_l18, n_l19, n_l20, n_l21, n_l22, n_l23, n_l24, n_l25, n_l26, n_l27, n_l28, n_l29, n_l30, n_l31, n_l32, n_l33, n_l34, n_l35, n_l36, n_l37, n_l38, n_l39, n_l40, n_l41, n_l42, n_l43, n_l44, n_l45, n_l46, n_l47, n_l48, n_l49, n_l50, n_l51, n_l52, n_l53, n_l54, n_l55, n_l56, n_l57, n_l58, n_l59, n_l60]
  · intro c
    by_cases c1 : ahd G brd n 0 20
    · have hi := hi.1 c1
      rw [decide_eq_false (fun d => c ⟨c1, d⟩)] at hj
      simp (disch := omega) only [f_X10_later, hi, hj, bI_f, n_i8, n_i16, n_0, n_31, n_add, n_sub, n_mul, n_neg, n_div, n_rem, n_le_t, n_le_f, n_lt_t, n_lt_f, n_eq_t, n_eq_f, n_cl, n_gd, n_gdt, n_nz, Int.reduceToNat, Int.reduceAdd, Int.reduceSub, Int.reduceMul, Int.reduceNeg, Int.reduceLT, Int.reduceLE, Int.reduceEq, Int.reduceDiv, Int.reduceMod, Nat.reduceAdd, Nat.reduceMul, ↓reduceIte, l_0, l_1, l_00, l_i, l_j, l_add, l_sub, l_mul, l_gt, l_ceq, l_clt, l_nz, u_eq, u_no, u_nk, u_ek, u_2, u_3, j_1, j_3, j_eq, j_no, j_nk, lt_def, Option.bind_some, n_l1, n_l2, n_l3, n_l4, n_l5, n_l6, n_l7, n_l8, n_l9, n_l10, n_l11, n_l12, n_l13, n_l14, n_l15, n_l16, n_l17, n_l18, n_l19, n_l20, n_l21, n_l22, n_l23, n_l24, n_l25, n_l26, n_l27, n_l28, n_l29, n_l30, n_l31, n_l32, n_l33, n_l34, n_l35, n_l36, n_l37, n_l38, n_l39, n_l40, n_l41, n_l42, n_l43, n_l44, n_l45, n_l46, n_l47, n_l48, n_l49, n_l50, n_l51, n_l52, n_l53, n_l54, n_l55, n_l56, n_l57, n_l58, n_l59, n_l60]
    · have hi := hi.2 c1
      simp (disch := omega) only [f_X10_later, hi, n_i8, n_i16, n_0, n_31, n_add, n_sub, n_mul, n_neg, n_div, n_rem, n_le_t, n_le_f, n_lt_t, n_lt_f, n_eq_t, n_eq_f, n_cl, n_gd, n_gdt, n_nz, Int.reduceToNat, Int.reduceAdd, Int.reduceSub, Int.reduceMul, Int.reduceNeg, Int.reduceLT, Int.reduceLE, Int.reduceEq, Int.reduceDiv, Int.reduceMod, Nat.reduceAdd, Nat.reduceMul, ↓reduceIte, l_0, l_1, l_00, l_i, l_j, l_add, l_sub, l_mul, l_gt, l_ceq, l_clt, l_nz, u_eq, u_no, u_nk, u_ek, u_2, u_3, j_1, j_3, j_eq, j_no, j_nk, lt_def, Option.bind_some, n_l1, n_l2, n_l3, n_l4, n_l5, n_l6, n_l7, n_l8, n_l9, n_l10, n_l11, n_l12, n_l13, n_l14, n_l15, n_l16, n_l17, n_l18, n_l19, n_l20, n_l21, n_l22, n_l23, n_l24, n_l25, n_l26, n_l27, n_l28, n_l29, n_l30, n_l31, n_l32, n_l33, n_l34, n_l35, n_l36, n_l37, n_l38, n_l39, n_l40, n_l41, n_l42, n_l43, n_l44, n_l45, n_l46, n_l47, n_l48, n_l49, n_l50, n_l51, n_l52, n_l53, n_l54, n_l55, n_l56, n_l57, n_l58, n_l59, n_l60]
theorem m_crop {B : Brd} {G : Gam} {brd : Bool} {s : ST} (hR : RS B G brd s) {f n : Int} (f1 : -2147483648 ≤ f) (f2 : f ≤ 2147483647) (n1 : -2147483648 ≤ n) (n2 : n ≤ 2147483647) : ((0 ≤ f ∧ f < bF B) ∧ ahd G brd n 0 20 → ∃ s', f_X10_crop (Int32.ofInt f) (Int32.ofInt n) s = some (Int32.ofInt (gb (daysN B (-1) 0 n.toNat G) f), s') ∧ QF s s') ∧ (¬ ((0 ≤ f ∧ f < bF B) ∧ ahd G brd n 0 20) → f_X10_crop (Int32.ofInt f) (Int32.ofInt n) s = some (Int32.ofInt (-1), s)) := by
  have hi := m_isAheadR hR n1 n2 (a := 0) (b := 20) (by omega) (by omega) (by omega) (by omega)
  have hj := m_isField hR.1.1 f1 f2
  have hF6 : bF B ≤ 6 := hR.1.1.1.1.1.2.2.2.2.2.2.2.2.2
  constructor
  · intro ⟨c2, c1⟩
    have hi := hi.1 c1
    rw [decide_eq_true c2] at hj
    obtain ⟨s1, q1, q2, q3, q4, q5, q6, -⟩ := m_think hR
    obtain ⟨s2, r1, r2, r3⟩ := m_daysGo q3 q4 (hR.2.2.2.2.1 c1.1).1 hR.1.2.2 q5 q2.1 (N := n) (by have := c1.2.1; omega) (by have := c1.2.1; omega) (by omega) (by omega) (Or.inl rfl) (by have := c1.2.2; omega)
    obtain ⟨s3, t1, t2, -⟩ := m_takesBack (TH_fd q2 r2) hR.2.2.1 ((r2.1 65 78 (by omega) (by omega) (by omega)).trans q6)
    refine ⟨s3, ?_, t2⟩
    have v := r3.2.2.2.2.2 f c2.1 c2.2
    simp (disch := omega) only [f_X10_crop, hi, hj, q1, r1, t1, v, bI_t, n_i8, n_i16, n_0, n_31, n_add, n_sub, n_mul, n_neg, n_div, n_rem, n_le_t, n_le_f, n_lt_t, n_lt_f, n_eq_t, n_eq_f, n_cl, n_gd, n_gdt, n_nz, Int.reduceToNat, Int.reduceAdd, Int.reduceSub, Int.reduceMul, Int.reduceNeg, Int.reduceLT, Int.reduceLE, Int.reduceEq, Int.reduceDiv, Int.reduceMod, Nat.reduceAdd, Nat.reduceMul, ↓reduceIte, l_0, l_1, l_00, l_i, l_j, l_add, l_sub, l_mul, l_gt, l_ceq, l_clt, l_nz, u_eq, u_no, u_nk, u_ek, u_2, u_3, j_1, j_3, j_eq, j_no, j_nk, lt_def, Option.bind_some, n_l1, n_l2, n_l3, n_l4, n_l5, n_l6, n_l7, n_l8, n_l9, n_l10, n_l11, n_l12, n_l13, n_l14, n_l15, n_l16, n_l17, n_l18, n_l19, n_l20, n_l21, n_l22, n_l23, n_l24, n_l25, n_l26, n_l27, n_l28, n_l29, n_l30, n_l31, n_l32, n_l33, n_l34, n_l35, n_l36, n_l37, n_l38, n_l39, n_l40, n_l41, n_l42, n_l43, n_l44, n_l45, n_l46, n_l47, n_l48, n_l49, n_l50, n_l51, n_l52, n_l53, n_l54, n_l55, n_l56, n_l57, n_l58, n_l59, n_l60]
  · intro c
    by_cases c1 : 0 ≤ f ∧ f < bF B
    · rw [decide_eq_true c1] at hj
      have hi := hi.2 (fun d => c ⟨c1, d⟩)
      simp (disch := omega) only [f_X10_crop, hi, hj, bI_t, n_i8, n_i16, n_0, n_31, n_add, n_sub, n_mul, n_neg, n_div, n_rem, n_le_t, n_le_f, n_lt_t, n_lt_f, n_eq_t, n_eq_f, n_cl, n_gd, n_gdt, n_nz, Int.reduceToNat, Int.reduceAdd, Int.reduceSub, Int.reduceMul, Int.reduceNeg, Int.reduceLT, Int.reduceLE, Int.reduceEq, Int.reduceDiv, Int.reduceMod, Nat.reduceAdd, Nat.reduceMul, ↓reduceIte, l_0, l_1, l_00, l_i, l_j, l_add, l_sub, l_mul, l_gt, l_ceq, l_clt, l_nz, u_eq, u_no, u_nk, u_ek, u_2, u_3, j_1, j_3, j_eq, j_no, j_nk, lt_def, Option.bind_some, n_l1, n_l2, n_l3, n_l4, n_l5, n_l6, n_l7, n_l8, n_l9, n_l10, n_l11, n_l12, n_l13, n_l14, n_l15, n_l16, n_l17, n_l18, n_l19, n_l20, n_l21, n_l22, n_l23, n_l24, n_l25, n_l26, n_l27, n_l28, n_l29, n_l30, n_l31, n_l32, n_l33, n_l34, n_l35, n_l36, n_l37, n_l38, n_l39, n_l40, n_l41, n_l42, n_l43, n_l44, n_l45, n_l46, n_l47, n_l48, n_l49, n_l50, n_l51, n_l52, n_l53, n_l54, n_l55, n_l56, n_l57, n_l58, n_l59, n_l60]
    · rw [decide_eq_false c1] at hj
      simp (disch := omega) only [f_X10_crop, hj, bI_f, n_i8, n_i16, n_0, n_31, n_add, n_sub, n_mul, n_neg, n_div, n_rem, n_le_t, n_le_f, n_lt_t, n_lt_f, n_eq_t, n_eq_f, n_cl, n_gd, n_gdt, n_nz, Int.reduceToNat, Int.reduceAdd, Int.reduceSub, Int.reduceMul, Int.reduceNeg, Int.reduceLT, Int.reduceLE, Int.reduceEq, Int.reduceDiv, Int.reduceMod, Nat.reduceAdd, Nat.reduceMul, ↓reduceIte, l_0, l_1, l_00, l_i, l_j, l_add, l_sub, l_mul, l_gt, l_ceq, l_clt, l_nz, u_eq, u_no, u_nk, u_ek, u_2, u_3, j_1, j_3, j_eq, j_no, j_nk, lt_def, Option.bind_some, n_l1, n_l2, n_l3, n_l4, n_l5, n_l6, n_l7, n_l8, n_l9, n_l10, n_l11, n_l12, n_l13, n_l14, n_l15, n_l16, n_l17, n_l18, n_l19, n_l20, n_l21, n_l22, n_l23, n_l24, n_l25, n_l26, n_l27, n_l28, n_l29, n_l30, n_l31, n_l32, n_l33, n_l34, n_l35, n_l36, n_l37, n_l38, n_l39, n_l40, n_l41, n_l42, n_l43, n_l44, n_l45, n_l46, n_l47, n_l48, n_l49, n_l50, n_l51, n_l52, n_l53, n_l54, n_l55, n_l56, n_l57, n_l58, n_l59, n_l60]
theorem brn_b {B : Brd} {G : Gam} (hG : Gv B G) : ∀ (n : Nat) (i : Int), 0 ≤ i → (n : Int) ≤ bF B - i → 0 ≤ smL (gb G) (upto n i) ∧ smL (gb G) (upto n i) ≤ 999 * n
  | 0, i, _, _ => by simp [upto, smL]
  | n + 1, i, h0, hn => by
    have h1 := brn_b hG n (i + 1) (by omega) (by omega)
    have h2 := hG.2.2.2 i h0 (by omega)
    simp only [upto, smL]
    omega
theorem brn_bd {B : Brd} {G : Gam} (hB : Bv B) (hG : Gv B G) : 0 ≤ brn B G ∧ brn B G ≤ 6000 := by
  have hF0 : 0 ≤ bF B := hB.1.1.2.2.2.2.2.2.2.2.1
  have hF6 : bF B ≤ 6 := hB.1.1.2.2.2.2.2.2.2.2.2
  have := brn_b (B := B) hG (bF B).toNat 0 (by omega) (by omega)
  unfold brn
  omega
theorem m_deeper {B : Brd} {G : Gam} {brd : Bool} {s : ST} (hR : RS B G brd s) {t d n : Int} (t1 : -2147483648 ≤ t) (t2 : t ≤ 2147483647) (d1 : -2147483648 ≤ d) (d2 : d ≤ 2147483647) (n1 : -2147483648 ≤ n) (n2 : n ≤ 2147483647) : ((0 ≤ t ∧ t ≤ 1) ∧ (1 ≤ d ∧ d ≤ 2) ∧ ahd G brd n 0 20 → ∃ s', f_X10_deeper (Int32.ofInt t) (Int32.ofInt d) (Int32.ofInt n) s = some (Int64.ofInt (brn B (daysN B t d n.toNat G) - brn B (daysN B (-1) 0 n.toNat G)), s') ∧ QF s s') ∧ (¬ ((0 ≤ t ∧ t ≤ 1) ∧ (1 ≤ d ∧ d ≤ 2) ∧ ahd G brd n 0 20) → f_X10_deeper (Int32.ofInt t) (Int32.ofInt d) (Int32.ofInt n) s = some (Int64.ofInt (-1000000000000000), s)) := by
  have hi := m_isAheadR hR n1 n2 (a := 0) (b := 20) (by omega) (by omega) (by omega) (by omega)
  have hj := m_isIn (s := s) (v := t) (a := 0) (b := 1) (by omega) (by omega) (by omega) (by omega) (by omega) (by omega)
  have hk := m_isIn (s := s) (v := d) (a := 1) (b := 2) (by omega) (by omega) (by omega) (by omega) (by omega) (by omega)
  constructor
  · intro ⟨c2, c3, c1⟩
    have hi := hi.1 c1
    rw [decide_eq_true c2] at hj
    rw [decide_eq_true c3] at hk
    have hD := (hR.2.2.2.2.1 c1.1).1
    have hV := hR.1.2.2
    have e1 := c1.2.1
    have e2 := c1.2.2
    obtain ⟨s1, q1, q2, q3, q4, q5, q6, -⟩ := m_think hR
    obtain ⟨s2, r1, r2, r3⟩ := m_daysGo q3 q4 hD hV q5 q2.1 (N := n) (by omega) (by omega) (by omega) (by omega) (Or.inl rfl) (by omega)
    have v1 := m_bearAll r3
    obtain ⟨s3, t1, t2, t3, t4, t5, t6⟩ := m_triesAnew (TH_fd q2 r2) hR.1.1
    have hA4 : MA B G (uI (uI s3 65 78 (Int32.ofInt t)) 65 79 (Int32.ofInt d)) := MA_o t3 (fun o k ho => by rw [u_no ho, u_no ho])
    have hH4 : MH B (uI (uI s3 65 78 (Int32.ofInt t)) 65 79 (Int32.ofInt d)) := MH_fr hR.1.2.1 (fun o k o1 o2 => by rw [u_no (by omega), u_no (by omega)]; exact t2.2.2.1 o k (by unfold QP; omega) (by omega) (by omega))
    have hT4 : TH s (uI (uI s3 65 78 (Int32.ofInt t)) 65 79 (Int32.ofInt d)) := by
      obtain ⟨a1, a2, a3, a4, a5⟩ := t2
      refine ⟨?_, fun k hk => ?_, fun o k q a b => ?_, a4, a5⟩
      · rw [u_nk (by omega), u_nk (by omega)]; exact a1
      · rw [u_no (by omega), u_no (by omega)]; exact a2 k hk
      · rw [ua, ua, if_neg (by unfold QP at q; omega), if_neg (by omega)]; exact a3 o k q a b
    have hQ4 : DQ t d (uI (uI s3 65 78 (Int32.ofInt t)) 65 79 (Int32.ofInt d)) := ⟨by rw [u_nk (by omega), u_eq], Or.inr (by rw [u_eq])⟩
    obtain ⟨s5, p1, p2, p3⟩ := m_daysGo hA4 hH4 hD hV hQ4 hT4.1 (N := n) (by omega) (by omega) (by omega) (by omega) (Or.inr c3) (by omega)
    have hA6 : MA B (daysN B t d n.toNat G) (uI s5 65 78 (Int32.ofInt (-1))) := MA_o p3 (fun o k ho => by rw [u_no ho])
    have v2 := m_bearAll hA6
    have hT6 : TH s (uI s5 65 78 (Int32.ofInt (-1))) := by
      obtain ⟨a1, a2, a3, a4, a5⟩ := TH_fd hT4 p2
      refine ⟨?_, fun k hk => ?_, fun o k q a b => ?_, a4, a5⟩
      · rw [u_nk (by omega)]; exact a1
      · rw [u_no (by omega)]; exact a2 k hk
      · rw [ua, if_neg (by omega)]; exact a3 o k q a b
    obtain ⟨s7, w1, w2, -⟩ := m_takesBack hT6 hR.2.2.1 (by rw [u_eq]; exact hR.2.2.2.1.symm)
    refine ⟨s7, ?_, w2⟩
    have b1 := brn_bd hA6.1 hA6.2.1
    have b2 := brn_bd r3.1 r3.2.1
    simp (disch := omega) only [f_X10_deeper, hi, hj, hk, q1, r1, v1, t1, p1, v2, w1, bI_t, n_i8, n_i16, n_0, n_31, n_add, n_sub, n_mul, n_neg, n_div, n_rem, n_le_t, n_le_f, n_lt_t, n_lt_f, n_eq_t, n_eq_f, n_cl, n_gd, n_gdt, n_nz, Int.reduceToNat, Int.reduceAdd, Int.reduceSub, Int.reduceMul, Int.reduceNeg, Int.reduceLT, Int.reduceLE, Int.reduceEq, Int.reduceDiv, Int.reduceMod, Nat.reduceAdd, Nat.reduceMul, ↓reduceIte, l_0, l_1, l_00, l_i, l_j, l_add, l_sub, l_mul, l_gt, l_ceq, l_clt, l_nz, n_l1, n_l2, n_l3, n_l4, n_l5, n_l6, n_l7, n_l8, n_l9, n_l10, n_l11, n_l12, n_l13, n_l14, n_l15, n_l16, n_l17, n_l18, n_l19, n_l20, n_l21, n_l22, n_l23, n_l24, n_l25, n_l26, n_l27, n_l28, n_l29, n_l30, n_l31, n_l32, n_l33, n_l34, n_l35, n_l36, n_l37, n_l38, n_l39, n_l40, n_l41, n_l42, n_l43, n_l44, n_l45, n_l46, n_l47, n_l48, n_l49, n_l50, n_l51, n_l52, n_l53, n_l54, n_l55, n_l56, n_l57, n_l58, n_l59, n_l60, lt_def, Option.bind_some]
  · intro c
    by_cases c1 : 0 ≤ t ∧ t ≤ 1
    · rw [decide_eq_true c1] at hj
      by_cases c2 : 1 ≤ d ∧ d ≤ 2
      · rw [decide_eq_true c2] at hk
        have hi := hi.2 (fun d => c ⟨c1, c2, d⟩)
        simp (disch := omega) only [f_X10_deeper, hi, hj, hk, bI_t, n_i8, n_i16, n_0, n_31, n_add, n_sub, n_mul, n_neg, n_div, n_rem, n_le_t, n_le_f, n_lt_t, n_lt_f, n_eq_t, n_eq_f, n_cl, n_gd, n_gdt, n_nz, Int.reduceToNat, Int.reduceAdd, Int.reduceSub, Int.reduceMul, Int.reduceNeg, Int.reduceLT, Int.reduceLE, Int.reduceEq, Int.reduceDiv, Int.reduceMod, Nat.reduceAdd, Nat.reduceMul, ↓reduceIte, l_0, l_1, l_00, l_i, l_j, l_add, l_sub, l_mul, l_gt, l_ceq, l_clt, l_nz, u_eq, u_no, u_nk, u_ek, u_2, u_3, j_1, j_3, j_eq, j_no, j_nk, lt_def, Option.bind_some, n_l1, n_l2, n_l3, n_l4, n_l5, n_l6, n_l7, n_l8, n_l9, n_l10, n_l11, n_l12, n_l13, n_l14, n_l15, n_l16, n_l17, n_l18, n_l19, n_l20, n_l21, n_l22, n_l23, n_l24, n_l25, n_l26, n_l27, n_l28, n_l29, n_l30, n_l31, n_l32, n_l33, n_l34, n_l35, n_l36, n_l37, n_l38, n_l39, n_l40, n_l41, n_l42, n_l43, n_l44, n_l45, n_l46, n_l47, n_l48, n_l49, n_l50, n_l51, n_l52, n_l53, n_l54, n_l55, n_l56, n_l57, n_l58, n_l59, n_l60]
      · rw [decide_eq_false c2] at hk
        simp (disch := omega) only [f_X10_deeper, hj, hk, bI_t, bI_f, n_i8, n_i16, n_0, n_31, n_add, n_sub, n_mul, n_neg, n_div, n_rem, n_le_t, n_le_f, n_lt_t, n_lt_f, n_eq_t, n_eq_f, n_cl, n_gd, n_gdt, n_nz, Int.reduceToNat, Int.reduceAdd, Int.reduceSub, Int.reduceMul, Int.reduceNeg, Int.reduceLT, Int.reduceLE, Int.reduceEq, Int.reduceDiv, Int.reduceMod, Nat.reduceAdd, Nat.reduceMul, ↓reduceIte, l_0, l_1, l_00, l_i, l_j, l_add, l_sub, l_mul, l_gt, l_ceq, l_clt, l_nz, u_eq, u_no, u_nk, u_ek, u_2, u_3, j_1, j_3, j_eq, j_no, j_nk, lt_def, Option.bind_some, n_l1, n_l2, n_l3, n_l4, n_l5, n_l6, n_l7, n_l8, n_l9, n_l10, n_l11, n_l12, n_l13, n_l14, n_l15, n_l16, n_l17, n_l18, n_l19, n_l20, n_l21, n_l22, n_l23, n_l24, n_l25, n_l26, n_l27, n_l28, n_l29, n_l30, n_l31, n_l32, n_l33, n_l34, n_l35, n_l36, n_l37, n_l38, n_l39, n_l40, n_l41, n_l42, n_l43, n_l44, n_l45, n_l46, n_l47, n_l48, n_l49, n_l50, n_l51, n_l52, n_l53, n_l54, n_l55, n_l56, n_l57, n_l58, n_l59, n_l60]
    · rw [decide_eq_false c1] at hj
      simp (disch := omega) only [f_X10_deeper, hj, bI_f, n_i8, n_i16, n_0, n_31, n_add, n_sub, n_mul, n_neg, n_div, n_rem, n_le_t, n_le_f, n_lt_t, n_lt_f, n_eq_t, n_eq_f, n_cl, n_gd, n_gdt, n_nz, Int.reduceToNat, Int.reduceAdd, Int.reduceSub, Int.reduceMul, Int.reduceNeg, Int.reduceLT, Int.reduceLE, Int.reduceEq, Int.reduceDiv, Int.reduceMod, Nat.reduceAdd, Nat.reduceMul, ↓reduceIte, l_0, l_1, l_00, l_i, l_j, l_add, l_sub, l_mul, l_gt, l_ceq, l_clt, l_nz, u_eq, u_no, u_nk, u_ek, u_2, u_3, j_1, j_3, j_eq, j_no, j_nk, lt_def, Option.bind_some, n_l1, n_l2, n_l3, n_l4, n_l5, n_l6, n_l7, n_l8, n_l9, n_l10, n_l11, n_l12, n_l13, n_l14, n_l15, n_l16, n_l17, n_l18, n_l19, n_l20, n_l21, n_l22, n_l23, n_l24, n_l25, n_l26, n_l27, n_l28, n_l29, n_l30, n_l31, n_l32, n_l33, n_l34, n_l35, n_l36, n_l37, n_l38, n_l39, n_l40, n_l41, n_l42, n_l43, n_l44, n_l45, n_l46, n_l47, n_l48, n_l49, n_l50, n_l51, n_l52, n_l53, n_l54, n_l55, n_l56, n_l57, n_l58, n_l59, n_l60]
