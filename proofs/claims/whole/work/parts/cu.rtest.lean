/-! L3: the reference reads TESTS: steps -/
section SM
variable (K : ST → Option ST)
def rsT (F2 : Nat) (q : Int32 × ST) : Option ST := if q.1 = 0 then f_X10_qTest_L2 K F2 (Int32.ofInt 0) q.2 else f_X10_qTest_L2 K F2 (Int32.ofInt 1) q.2
def GMt (F3 F2 : Nat) (s : ST) : Option ST := (f_X10_qGoesOnTest_L0 f_X10_qGoesOnTest_j76 F3 s).bind (rsT K F2)
def G1t (F2 : Nat) (s : ST) : Option ST := if (s.1 65 5) = 0 then (f_X10_qGoesOnTest s).bind (rsT K F2) else f_X10_qTest_L2 K F2 (Int32.ofInt 0) s
def TM (F : Nat) (s : ST) : Option ST := f_X10_qTest_L2 K F (Int32.ofInt 1) s
end SM
variable {K : ST → Option ST} {T : Int → Int} {n : Int}
theorem t2_0 (F : Nat) (s : ST) : f_X10_qTest_L2 K (F + 1) (Int32.ofInt 0) s = K s := by
  rw [f_X10_qTest_L2]
  simp (disch := omega) only [n_i8, n_i16, n_0, n_31, n_add, n_sub, n_mul, n_neg, n_div, n_rem, n_le_t, n_le_f, n_lt_t, n_lt_f, n_eq_t, n_eq_f, n_cl, n_gd, n_gdt, n_nz, Int.reduceToNat, Int.reduceAdd, Int.reduceSub, Int.reduceMul, Int.reduceNeg, Int.reduceLT, Int.reduceLE, Int.reduceEq, Int.reduceDiv, Int.reduceMod, Nat.reduceAdd, Nat.reduceMul, ↓reduceIte]
theorem rsT_0 (F2 : Nat) (s : ST) : rsT K (F2 + 1) (Int32.ofInt 0, s) = K s := by
  unfold rsT
  rw [if_pos (show ((Int32.ofInt 0, s) : Int32 × ST).1 = 0 from rfl)]
  exact t2_0 F2 s
theorem rsT_1 (F2 : Nat) (s : ST) : rsT K F2 (Int32.ofInt 1, s) = TM K F2 s := by
  unfold rsT
  rw [if_neg (show ¬ ((Int32.ofInt 1, s) : Int32 × ST).1 = 0 from by show ¬ Int32.ofInt 1 = 0; decide)]
  rfl
theorem G1t_g {F2 : Nat} {s : ST} (h : s.1 65 5 = Int32.ofInt 0) : G1t K F2 s = GMt K fuel F2 s := by
  unfold G1t
  rw [if_pos (show s.1 65 5 = 0 from h)]
  rfl
theorem G1t_b {F2 : Nat} {k p : Int} {s : ST} (h : RB k p s) : G1t K (F2 + 1) s = K s := by
  unfold G1t
  rw [if_neg h.ne]
  exact t2_0 F2 s
theorem TM_b {k p : Int} {s : ST} (h : RB k p s) (F : Nat) : TM K (F + 1) s = K s := by
  have e5 : (s.1 65 5 = Int32.ofInt 0) = False := eq_false h.ne
  unfold TM
  rw [f_X10_qTest_L2]
  simp (disch := omega) only [e5, n_i8, n_i16, n_0, n_31, n_add, n_sub, n_mul, n_neg, n_div, n_rem, n_le_t, n_le_f, n_lt_t, n_lt_f, n_eq_t, n_eq_f, n_cl, n_gd, n_gdt, n_nz, Int.reduceToNat, Int.reduceAdd, Int.reduceSub, Int.reduceMul, Int.reduceNeg, Int.reduceLT, Int.reduceLE, Int.reduceEq, Int.reduceDiv, Int.reduceMod, Nat.reduceAdd, Nat.reduceMul, ↓reduceIte]
/-- a square bracket waits -/
theorem m_hasSq_L {cs W : List Int} {o : Int} {s : ST} (h : QS cs W o s) (hw : (W.length : Int) ≤ 1700) : ∀ (m F i : Nat), i + m = W.length → m < F → f_X10_qHasSquare_L2 F (Int32.ofInt (i : Int)) s = some (bI ((W.drop i).any (fun v => decide (v = 25))), s) := by
  have h3 := h.2.1.1
  intro m
  induction m with
  | zero =>
    intro F i hi hF
    obtain ⟨F, rfl⟩ : ∃ F', F = F' + 1 := ⟨F - 1, by omega⟩
    rw [List.drop_of_length_le (by omega)]
    show _ = some (Int32.ofInt 0, s)
    simp (disch := omega) only [f_X10_qHasSquare_L2, h3, n_i8, n_i16, n_0, n_31, n_add, n_sub, n_mul, n_neg, n_div, n_rem, n_le_t, n_le_f, n_lt_t, n_lt_f, n_eq_t, n_eq_f, n_cl, n_gd, n_gdt, n_nz, Int.reduceToNat, Int.reduceAdd, Int.reduceSub, Int.reduceMul, Int.reduceNeg, Int.reduceLT, Int.reduceLE, Int.reduceEq, Int.reduceDiv, Int.reduceMod, Nat.reduceAdd, Nat.reduceMul, ↓reduceIte]
  | succ m ih =>
    intro F i hi hF
    obtain ⟨F, rfl⟩ : ∃ F', F = F' + 1 := ⟨F - 1, by omega⟩
    have hil : i < W.length := by omega
    have hv := h.2.1.2 i hil
    have hg : W.getD i 0 = W[i] := by rw [List.getD_eq_getElem?_getD, List.getElem?_eq_getElem hil]; rfl
    have hb := h.2.2.2 W[i] (List.getElem_mem hil)
    rw [hg] at hv
    rw [List.drop_eq_getElem_cons hil, List.any_cons]
    generalize W[i] = v at *
    have ecl : (Int32.ofInt (i : Int)).toNatClampNeg = i := by rw [n_cl (by omega) (by omega)]; omega
    have egd : ∀ {α : Type} {y : Option α}, gd (ib (Int32.ofInt (i : Int)) 1700) y = y := by intro α y; exact n_gd (by omega) (by omega) (by omega)
    by_cases e : v = 25
    · rw [decide_eq_true e, Bool.true_or]
      simp (disch := omega) only [f_X10_qHasSquare_L2, h3, ecl, egd, hv, bI_t, n_i8, n_i16, n_0, n_31, n_add, n_sub, n_mul, n_neg, n_div, n_rem, n_le_t, n_le_f, n_lt_t, n_lt_f, n_eq_t, n_eq_f, n_cl, n_gd, n_gdt, n_nz, Int.reduceToNat, Int.reduceAdd, Int.reduceSub, Int.reduceMul, Int.reduceNeg, Int.reduceLT, Int.reduceLE, Int.reduceEq, Int.reduceDiv, Int.reduceMod, Nat.reduceAdd, Nat.reduceMul, ↓reduceIte]
    · rw [decide_eq_false e, Bool.false_or]
      have ih := ih F (i + 1) (by omega) (by omega)
      rw [show ((i + 1 : Nat) : Int) = (i : Int) + 1 by omega] at ih
      rw [← ih, f_X10_qHasSquare_L2]
      simp (disch := omega) only [h3, ecl, egd, hv, n_i8, n_i16, n_0, n_31, n_add, n_sub, n_mul, n_neg, n_div, n_rem, n_le_t, n_le_f, n_lt_t, n_lt_f, n_eq_t, n_eq_f, n_cl, n_gd, n_gdt, n_nz, Int.reduceToNat, Int.reduceAdd, Int.reduceSub, Int.reduceMul, Int.reduceNeg, Int.reduceLT, Int.reduceLE, Int.reduceEq, Int.reduceDiv, Int.reduceMod, Nat.reduceAdd, Nat.reduceMul, ↓reduceIte]
theorem m_hasSq {cs W : List Int} {o : Int} {s : ST} (h : QS cs W o s) (hw : (W.length : Int) ≤ 1700) : f_X10_qHasSquare s = some (bI (W.any (fun v => decide (v = 25))), s) := by
  have e := m_hasSq_L h hw W.length fuel 0 (by omega) (by unfold fuel; omega)
  rw [List.drop_zero] at e
  exact e
theorem any_r {W r : List Int} (hr : ∀ v ∈ r, v = 10 ∨ v = 11) : (W ++ r.reverse).any (fun v => decide (v = 25)) = W.any (fun v => decide (v = 25)) := by
  rw [List.any_append]
  have : r.reverse.any (fun v => decide (v = 25)) = false := by
    rw [List.any_eq_false]
    intro v hv
    have := hr v (List.mem_reverse.mp hv)
    rw [decide_eq_true_iff]
    omega
  rw [this, Bool.or_false]
theorem any_25 (W : List Int) : (W ++ [25]).any (fun v => decide (v = 25)) = true := by
  rw [List.any_append]
  show (_ || (decide ((25 : Int) = 25) || false)) = true
  rw [decide_eq_true rfl, Bool.true_or, Bool.or_true]
/-- what waits becomes codes -/
theorem m_t87_L {W0 : List Int} (hT : ¬ tp W0 = 10) (Kk : ST → Option (Int32 × ST)) : ∀ (r : List Int) (F : Nat) (cs : List Int) (o : Int) (s : ST), QS cs (W0 ++ r.reverse) o s → (cs.length : Int) + ((W0 ++ r.reverse).length : Int) ≤ 1650 → (∀ v ∈ r, v = 10) → r.length < F → ∃ s', f_X10_qGoesOnTest_L87 Kk F s = Kk s' ∧ QS (cs ++ r) W0 o s' ∧ QWf s s' := by
  intro r
  induction r with
  | nil =>
    intro F cs o s hq hl hr hF
    obtain ⟨F, rfl⟩ : ∃ F', F = F' + 1 := ⟨F - 1, by omega⟩
    rw [List.reverse_nil, List.append_nil] at hq hl
    refine ⟨s, ?_, by rw [List.append_nil]; exact hq, QWf.rf s⟩
    have a3 := m_qison hq (by omega) (q := 10) (by omega) (by omega)
    rw [decide_eq_false hT] at a3
    simp (disch := omega) only [f_X10_qGoesOnTest_L87, a3, bI_f, n_i8, n_i16, n_0, n_31, n_add, n_sub, n_mul, n_neg, n_div, n_rem, n_le_t, n_le_f, n_lt_t, n_lt_f, n_eq_t, n_eq_f, n_cl, n_gd, n_gdt, n_nz, Int.reduceToNat, Int.reduceAdd, Int.reduceSub, Int.reduceMul, Int.reduceNeg, Int.reduceLT, Int.reduceLE, Int.reduceEq, Int.reduceDiv, Int.reduceMod, Nat.reduceAdd, Nat.reduceMul, ↓reduceIte, u_eq, u_no, u_nk, u_ek, u_2, u_3, j_1, j_3, j_eq, j_no, j_nk, ltd, bnd]
  | cons v r ih =>
    intro F cs o s hq hl hr hF
    obtain ⟨F, rfl⟩ : ∃ F', F = F' + 1 := ⟨F - 1, by omega⟩
    rw [rev_c] at hq hl
    have a3 := m_qison hq (by omega) (q := 10) (by omega) (by omega)
    rw [tp_c] at a3
    rw [ln1] at hl
    obtain ⟨s1, q1, q2, q3⟩ := m_qdrops hq (by omega) (by omega)
    obtain ⟨s', p1, p2, p3⟩ := ih F (cs ++ [v]) o s1 q2 (by rw [ln1]; omega) (fun u hu => hr u (List.mem_cons_of_mem _ hu)) (by rw [List.length_cons] at hF; omega)
    refine ⟨s', ?_, by rw [List.append_assoc] at p2; exact p2, q3.tr p3⟩
    rw [decide_eq_true (hr v List.mem_cons_self)] at a3
    rw [← p1, f_X10_qGoesOnTest_L87]
    simp (disch := omega) only [a3, q1, bI_t, n_i8, n_i16, n_0, n_31, n_add, n_sub, n_mul, n_neg, n_div, n_rem, n_le_t, n_le_f, n_lt_t, n_lt_f, n_eq_t, n_eq_f, n_cl, n_gd, n_gdt, n_nz, Int.reduceToNat, Int.reduceAdd, Int.reduceSub, Int.reduceMul, Int.reduceNeg, Int.reduceLT, Int.reduceLE, Int.reduceEq, Int.reduceDiv, Int.reduceMod, Nat.reduceAdd, Nat.reduceMul, ↓reduceIte, u_eq, u_no, u_nk, u_ek, u_2, u_3, j_1, j_3, j_eq, j_no, j_nk, ltd, bnd]
theorem m_t137_L {W0 : List Int} (hT : ¬ tp W0 = 10) (hT2 : ¬ tp W0 = 11) (Kk : ST → Option (Int32 × ST)) : ∀ (r : List Int) (F : Nat) (cs : List Int) (o : Int) (s : ST), QS cs (W0 ++ r.reverse) o s → (cs.length : Int) + ((W0 ++ r.reverse).length : Int) ≤ 1650 → (∀ v ∈ r, v = 10 ∨ v = 11) → r.length < F → ∃ s', f_X10_qGoesOnTest_L137 Kk F s = Kk s' ∧ QS (cs ++ r) W0 o s' ∧ QWf s s' := by
  intro r
  induction r with
  | nil =>
    intro F cs o s hq hl hr hF
    obtain ⟨F, rfl⟩ : ∃ F', F = F' + 1 := ⟨F - 1, by omega⟩
    rw [List.reverse_nil, List.append_nil] at hq hl
    refine ⟨s, ?_, by rw [List.append_nil]; exact hq, QWf.rf s⟩
    have a3 := m_qison hq (by omega) (q := 10) (by omega) (by omega)
    have a4 := m_qison hq (by omega) (q := 11) (by omega) (by omega)
    rw [decide_eq_false hT] at a3
    rw [decide_eq_false hT2] at a4
    simp (disch := omega) only [f_X10_qGoesOnTest_L137, a3, a4, bI_f, n_i8, n_i16, n_0, n_31, n_add, n_sub, n_mul, n_neg, n_div, n_rem, n_le_t, n_le_f, n_lt_t, n_lt_f, n_eq_t, n_eq_f, n_cl, n_gd, n_gdt, n_nz, Int.reduceToNat, Int.reduceAdd, Int.reduceSub, Int.reduceMul, Int.reduceNeg, Int.reduceLT, Int.reduceLE, Int.reduceEq, Int.reduceDiv, Int.reduceMod, Nat.reduceAdd, Nat.reduceMul, ↓reduceIte, u_eq, u_no, u_nk, u_ek, u_2, u_3, j_1, j_3, j_eq, j_no, j_nk, ltd, bnd]
  | cons v r ih =>
    intro F cs o s hq hl hr hF
    obtain ⟨F, rfl⟩ : ∃ F', F = F' + 1 := ⟨F - 1, by omega⟩
    rw [rev_c] at hq hl
    have a3 := m_qison hq (by omega) (q := 10) (by omega) (by omega)
    have a4 := m_qison hq (by omega) (q := 11) (by omega) (by omega)
    rw [tp_c] at a3 a4
    rw [ln1] at hl
    obtain ⟨s1, q1, q2, q3⟩ := m_qdrops hq (by omega) (by omega)
    obtain ⟨s', p1, p2, p3⟩ := ih F (cs ++ [v]) o s1 q2 (by rw [ln1]; omega) (fun u hu => hr u (List.mem_cons_of_mem _ hu)) (by rw [List.length_cons] at hF; omega)
    refine ⟨s', ?_, by rw [List.append_assoc] at p2; exact p2, q3.tr p3⟩
    rw [← p1, f_X10_qGoesOnTest_L137]
    rcases hr v List.mem_cons_self with e | e
    · rw [decide_eq_true e] at a3
      simp (disch := omega) only [f_X10_qGoesOnTest_j155, a3, q1, bI_t, n_i8, n_i16, n_0, n_31, n_add, n_sub, n_mul, n_neg, n_div, n_rem, n_le_t, n_le_f, n_lt_t, n_lt_f, n_eq_t, n_eq_f, n_cl, n_gd, n_gdt, n_nz, Int.reduceToNat, Int.reduceAdd, Int.reduceSub, Int.reduceMul, Int.reduceNeg, Int.reduceLT, Int.reduceLE, Int.reduceEq, Int.reduceDiv, Int.reduceMod, Nat.reduceAdd, Nat.reduceMul, ↓reduceIte, u_eq, u_no, u_nk, u_ek, u_2, u_3, j_1, j_3, j_eq, j_no, j_nk, ltd, bnd]
    · rw [decide_eq_true e] at a4
      rw [decide_eq_false (by omega)] at a3
      simp (disch := omega) only [f_X10_qGoesOnTest_j155, a3, a4, q1, bI_t, bI_f, n_i8, n_i16, n_0, n_31, n_add, n_sub, n_mul, n_neg, n_div, n_rem, n_le_t, n_le_f, n_lt_t, n_lt_f, n_eq_t, n_eq_f, n_cl, n_gd, n_gdt, n_nz, Int.reduceToNat, Int.reduceAdd, Int.reduceSub, Int.reduceMul, Int.reduceNeg, Int.reduceLT, Int.reduceLE, Int.reduceEq, Int.reduceDiv, Int.reduceMod, Nat.reduceAdd, Nat.reduceMul, ↓reduceIte, u_eq, u_no, u_nk, u_ek, u_2, u_3, j_1, j_3, j_eq, j_no, j_nk, ltd, bnd]
theorem m_t33_L (W : List Int) (Kk : ST → Option (Int32 × ST)) : ∀ (r : List Int) (F : Nat) (cs : List Int) (o : Int) (s : ST), QS cs ((W ++ [25]) ++ r.reverse) o s → (cs.length : Int) + (((W ++ [25]) ++ r.reverse).length : Int) ≤ 1650 → (∀ v ∈ r, v = 10 ∨ v = 11) → r.length < F → ∃ s', f_X10_qGoesOnTest_L33 Kk F s = Kk s' ∧ QS (cs ++ r) (W ++ [25]) o s' ∧ QWf s s' := by
  intro r
  induction r with
  | nil =>
    intro F cs o s hq hl hr hF
    obtain ⟨F, rfl⟩ : ∃ F', F = F' + 1 := ⟨F - 1, by omega⟩
    rw [List.reverse_nil, List.append_nil] at hq hl
    refine ⟨s, ?_, by rw [List.append_nil]; exact hq, QWf.rf s⟩
    have a3 := m_qison hq (by omega) (q := 25) (by omega) (by omega)
    rw [tp_c, decide_eq_true rfl] at a3
    simp (disch := omega) only [f_X10_qGoesOnTest_L33, a3, bI_t, n_i8, n_i16, n_0, n_31, n_add, n_sub, n_mul, n_neg, n_div, n_rem, n_le_t, n_le_f, n_lt_t, n_lt_f, n_eq_t, n_eq_f, n_cl, n_gd, n_gdt, n_nz, Int.reduceToNat, Int.reduceAdd, Int.reduceSub, Int.reduceMul, Int.reduceNeg, Int.reduceLT, Int.reduceLE, Int.reduceEq, Int.reduceDiv, Int.reduceMod, Nat.reduceAdd, Nat.reduceMul, ↓reduceIte, u_eq, u_no, u_nk, u_ek, u_2, u_3, j_1, j_3, j_eq, j_no, j_nk, ltd, bnd]
  | cons v r ih =>
    intro F cs o s hq hl hr hF
    obtain ⟨F, rfl⟩ : ∃ F', F = F' + 1 := ⟨F - 1, by omega⟩
    rw [rev_c] at hq hl
    have a3 := m_qison hq (by omega) (q := 25) (by omega) (by omega)
    rw [tp_c] at a3
    rw [ln1] at hl
    have hv := hr v List.mem_cons_self
    obtain ⟨s1, q1, q2, q3⟩ := m_qdrops hq (by omega) (by omega)
    obtain ⟨s', p1, p2, p3⟩ := ih F (cs ++ [v]) o s1 q2 (by rw [ln1]; omega) (fun u hu => hr u (List.mem_cons_of_mem _ hu)) (by rw [List.length_cons] at hF; omega)
    refine ⟨s', ?_, by rw [List.append_assoc] at p2; exact p2, q3.tr p3⟩
    rw [decide_eq_false (by omega)] at a3
    rw [← p1, f_X10_qGoesOnTest_L33]
    simp (disch := omega) only [a3, q1, bI_f, n_i8, n_i16, n_0, n_31, n_add, n_sub, n_mul, n_neg, n_div, n_rem, n_le_t, n_le_f, n_lt_t, n_lt_f, n_eq_t, n_eq_f, n_cl, n_gd, n_gdt, n_nz, Int.reduceToNat, Int.reduceAdd, Int.reduceSub, Int.reduceMul, Int.reduceNeg, Int.reduceLT, Int.reduceLE, Int.reduceEq, Int.reduceDiv, Int.reduceMod, Nat.reduceAdd, Nat.reduceMul, ↓reduceIte, u_eq, u_no, u_nk, u_ek, u_2, u_3, j_1, j_3, j_eq, j_no, j_nk, ltd, bnd]
theorem m_t110_L : ∀ (r : List Int) (F : Nat) (cs : List Int) (o : Int) (s : ST), QS cs r.reverse o s → s.1 65 5 = Int32.ofInt 0 → (cs.length : Int) + (r.length : Int) ≤ 1650 → r.length < F → ∃ s', f_X10_qTest_L110 F s = some s' ∧ QS (cs ++ r) [] o s' ∧ QWf s s' := by
  intro r
  induction r with
  | nil =>
    intro F cs o s hq h5 hl hF
    obtain ⟨F, rfl⟩ : ∃ F', F = F' + 1 := ⟨F - 1, by omega⟩
    rw [List.reverse_nil] at hq
    refine ⟨s, ?_, by rw [List.append_nil]; exact hq, QWf.rf s⟩
    have h3 : s.1 65 113 = Int32.ofInt 0 := hq.2.1.1
    simp (disch := omega) only [f_X10_qTest_L110, h3, h5, n_i8, n_i16, n_0, n_31, n_add, n_sub, n_mul, n_neg, n_div, n_rem, n_le_t, n_le_f, n_lt_t, n_lt_f, n_eq_t, n_eq_f, n_cl, n_gd, n_gdt, n_nz, Int.reduceToNat, Int.reduceAdd, Int.reduceSub, Int.reduceMul, Int.reduceNeg, Int.reduceLT, Int.reduceLE, Int.reduceEq, Int.reduceDiv, Int.reduceMod, Nat.reduceAdd, Nat.reduceMul, ↓reduceIte]
  | cons v r ih =>
    intro F cs o s hq h5 hl hF
    obtain ⟨F, rfl⟩ : ∃ F', F = F' + 1 := ⟨F - 1, by omega⟩
    rw [List.reverse_cons] at hq
    rw [List.length_cons] at hl hF
    have h3 := hq.2.1.1
    rw [ln1, List.length_reverse] at h3
    obtain ⟨s1, q1, q2, q3⟩ := m_qdrops hq (by omega) (by rw [List.length_reverse]; omega)
    obtain ⟨s', p1, p2, p3⟩ := ih F (cs ++ [v]) o s1 q2 ((q3.1 65 5 (by omega) (by omega) (by omega)).trans h5) (by rw [ln1]; omega) (by omega)
    refine ⟨s', ?_, by rw [List.append_assoc] at p2; exact p2, q3.tr p3⟩
    rw [show ((r.length + 1 : Nat) : Int) = (r.length : Int) + 1 by omega] at h3
    rw [← p1, f_X10_qTest_L110]
    simp (disch := omega) only [h3, h5, ↓bb q1, n_i8, n_i16, n_0, n_31, n_add, n_sub, n_mul, n_neg, n_div, n_rem, n_le_t, n_le_f, n_lt_t, n_lt_f, n_eq_t, n_eq_f, n_cl, n_gd, n_gdt, n_nz, Int.reduceToNat, Int.reduceAdd, Int.reduceSub, Int.reduceMul, Int.reduceNeg, Int.reduceLT, Int.reduceLE, Int.reduceEq, Int.reduceDiv, Int.reduceMod, Nat.reduceAdd, Nat.reduceMul, ↓reduceIte]
/-! nots -/
theorem N_stop {c : Cur} {cs W : List Int} {o : Int} {s : ST} {F : Nat} (h : MZ T n true 0 c cs W o s) (hT : ¬ tp W = 12) : f_X10_qDropsNots_L0 (F + 1) s = some s := by
  have hn := h.nb
  have hsz := h.2.2.2.2
  have h5 := h.1.b.1
  have a := m_qison h.2.2.1 (by omega) (q := 12) (by omega) (by omega)
  rw [decide_eq_false hT] at a
  have a : f_X10_qIsOn (Int32.ofInt 12) s = some (Int32.ofInt 0, s) := a
  simp (disch := omega) only [f_X10_qDropsNots_L0, h5, ↓bb a, n_i8, n_i16, n_0, n_31, n_add, n_sub, n_mul, n_neg, n_div, n_rem, n_le_t, n_le_f, n_lt_t, n_lt_f, n_eq_t, n_eq_f, n_cl, n_gd, n_gdt, n_nz, Int.reduceToNat, Int.reduceAdd, Int.reduceSub, Int.reduceMul, Int.reduceNeg, Int.reduceLT, Int.reduceLE, Int.reduceEq, Int.reduceDiv, Int.reduceMod, Nat.reduceAdd, Nat.reduceMul, ↓reduceIte]
theorem N_pop {c : Cur} {cs W : List Int} {o : Int} {s : ST} {F : Nat} (h : MZ T n true 0 c cs (W ++ [12]) (o + 1) s) (o0 : 0 ≤ o) : ∃ s', f_X10_qDropsNots_L0 (F + 1) s = f_X10_qDropsNots_L0 F s' ∧ MZ T n true 0 c (cs ++ [12]) W o s' ∧ RQf s s' := by
  have hn := h.nb
  have hsz := h.2.2.2.2
  have h5 := h.1.b.1
  have h114 := h.2.2.1.2.2.1.1
  have ho6 := h.2.2.1.2.2.1.2
  rw [ln1] at hsz
  have a := m_qison h.2.2.1 (by rw [ln1]; omega) (q := 12) (by omega) (by omega)
  rw [tp_c, decide_eq_true rfl] at a
  have a : f_X10_qIsOn (Int32.ofInt 12) s = some (Int32.ofInt 1, s) := a
  obtain ⟨a1, a2⟩ := h.2.2.1.opn (o' := o) (by omega) (by omega)
  obtain ⟨s2, q1, q2, q3⟩ := m_qdrops a1 (by omega) (by omega)
  refine ⟨s2, ?_, h.w (a2.tr q3) q2 (by omega) (by rw [ln1]; omega), (a2.tr q3).q⟩
  have e4 : Int32.ofInt (o + 1) - Int32.ofInt 1 = Int32.ofInt o := by rw [n_sub, show o + 1 - 1 = o by omega]
  rw [f_X10_qDropsNots_L0]
  simp (disch := omega) only [h5, ↓bb a, h114, e4, ↓bb q1, n_i8, n_i16, n_0, n_31, n_add, n_sub, n_mul, n_neg, n_div, n_rem, n_le_t, n_le_f, n_lt_t, n_lt_f, n_eq_t, n_eq_f, n_cl, n_gd, n_gdt, n_nz, Int.reduceToNat, Int.reduceAdd, Int.reduceSub, Int.reduceMul, Int.reduceNeg, Int.reduceLT, Int.reduceLE, Int.reduceEq, Int.reduceDiv, Int.reduceMod, Nat.reduceAdd, Nat.reduceMul, ↓reduceIte, ltd]
theorem N_b {k p : Int} {s : ST} (h : RB k p s) : f_X10_qDropsNots s = some s := by
  obtain ⟨F, hF⟩ : ∃ F, fuel = F + 1 := ⟨99999, rfl⟩
  unfold f_X10_qDropsNots
  rw [hF, f_X10_qDropsNots_L0, if_neg h.ne]
/-! one fact -/
def factS (T : Int → Int) (n : Int) (d : Nat) (c : Cur) : PR := if isWL T n c (WDl 30) = true then .ok ([13], nxW T n c) else sq (sumT T n true d c) (fun l c => cmpB T n (sumT T n true d) l c)
theorem m_qFact {c : Cur} {cs W : List Int} {o : Int} {s : ST} (h : MZ T n true 0 c cs W o s) {d : Nat} (hd : o + (d : Int) = 6) (hT : tp W = -1 ∨ (10 ≤ tp W ∧ tp W ≤ 25)) : ∃ s', f_X10_qFact s = some s' ∧ RQf s s' ∧ RQ (factS T n d c) (fun a => MZ T n true 0 a.2 (cs ++ a.1) W o s') (fun k q => RB k q s') := by
  have hn := h.nb
  have hsz := h.2.2.2.2
  obtain ⟨s1, p1, p2, p3, p4⟩ := m_takes h.1 h.2.1 (o := 132) (by unfold wce; omega)
  unfold factS
  cases e30 : isWL T n c (WDl 30) with
  | true =>
    have e30' : isWL T n c (WDl (wno 132)) = true := e30
    rw [e30'] at p1
    have p1 : f_X10_takes 132 s = some (Int32.ofInt 1, s1) := p1
    have hwb := wd_b (isWL_W e30) hn.1 hn.2.1
    have hM1 : MZ T n true 0 (nxW T n c) cs W o s1 := h.p p4 (p2 e30') (by omega)
    obtain ⟨s2, q1, q2, q3⟩ := m_qcode hM1.2.2.1 (by omega) 13
    refine ⟨s2, ?_, p4.q.tr q3.q, hM1.w q3 q2 (by omega) (by rw [ln1]; omega)⟩
    simp (disch := omega) only [f_X10_qFact, ↓bb p1, ↓bb q1, n_i8, n_i16, n_0, n_31, n_add, n_sub, n_mul, n_neg, n_div, n_rem, n_le_t, n_le_f, n_lt_t, n_lt_f, n_eq_t, n_eq_f, n_cl, n_gd, n_gdt, n_nz, Int.reduceToNat, Int.reduceAdd, Int.reduceSub, Int.reduceMul, Int.reduceNeg, Int.reduceLT, Int.reduceLE, Int.reduceEq, Int.reduceDiv, Int.reduceMod, Nat.reduceAdd, Nat.reduceMul, ↓reduceIte]
  | false =>
    have e30' : isWL T n c (WDl (wno 132)) = false := e30
    rw [e30'] at p1
    have p1 : f_X10_takes 132 s = some (Int32.ofInt 0, s1) := p1
    have hM1 : MZ T n true 0 c cs W o s1 := h.p p4 (p3 e30').rc (by omega)
    rw [if_neg (by decide)]
    obtain ⟨s2, q1, q2, q3⟩ := m_qSums hM1 hd hT
    have hr := sumT_b (T := T) (n := n) (m := true) d c hn.1 hn.2.1
    cases eS : sumT T n true d c with
    | error x =>
      rw [eS] at q3
      refine ⟨s2, ?_, p4.q.tr q2, q3.1⟩
      have e5 : (s2.1 65 5 = Int32.ofInt 0) = False := eq_false q3.1.ne
      simp (disch := omega) only [f_X10_qFact, ↓bb p1, ↓bb q1, e5, n_i8, n_i16, n_0, n_31, n_add, n_sub, n_mul, n_neg, n_div, n_rem, n_le_t, n_le_f, n_lt_t, n_lt_f, n_eq_t, n_eq_f, n_cl, n_gd, n_gdt, n_nz, Int.reduceToNat, Int.reduceAdd, Int.reduceSub, Int.reduceMul, Int.reduceNeg, Int.reduceLT, Int.reduceLE, Int.reduceEq, Int.reduceDiv, Int.reduceMod, Nat.reduceAdd, Nat.reduceMul, ↓reduceIte]
    | ok a =>
      rw [eS] at q3 hr
      have q3 : MZ T n true 0 a.2 (cs ++ a.1) W o s2 := q3
      obtain ⟨r1, r2, r3⟩ := (hr : c.1 + a.1.length ≤ a.2.1 ∧ c.1 < a.2.1 ∧ a.2.1 ≤ n)
      have h52 := q3.1.b.1
      obtain ⟨s3, t1, t2, t3, t4⟩ := m_lookQ q3
      have h2 := t2.b.2.1
      have h53 := t2.b.1
      have hlb := lkV_b (f := frm T n a.2) t2.b.2.2.2 (by have := t2.b.2.2.1; omega)
      have ef : f_X10_qFact s = (if Int32.ofInt (lkV T n (frm T n a.2)) = ((Int8.ofInt 60).toInt32) then f_X10_qFact_j63 (Int32.ofInt (lkV T n (frm T n a.2))) s3 else (if Int32.ofInt (lkV T n (frm T n a.2)) = ((Int8.ofInt 62).toInt32) then f_X10_qFact_j63 (Int32.ofInt (lkV T n (frm T n a.2))) s3 else (if Int32.ofInt (lkV T n (frm T n a.2)) = ((Int8.ofInt 61).toInt32) then f_X10_qFact_j63 (Int32.ofInt (lkV T n (frm T n a.2))) s3 else (f_X10_fail (Int32.ofInt 1) (s3.1 65 2) s3).bind (fun q9 => some q9)))) := by
        simp (disch := omega) only [f_X10_qFact, ↓bb p1, ↓bb q1, h52, ↓bb t1, n_i8, n_i16, n_0, n_31, n_add, n_sub, n_mul, n_neg, n_div, n_rem, n_le_t, n_le_f, n_lt_t, n_lt_f, n_eq_t, n_eq_f, n_cl, n_gd, n_gdt, n_nz, Int.reduceToNat, Int.reduceAdd, Int.reduceSub, Int.reduceMul, Int.reduceNeg, Int.reduceLT, Int.reduceLE, Int.reduceEq, Int.reduceDiv, Int.reduceMod, Nat.reduceAdd, Nat.reduceMul, ↓reduceIte]
      rw [ef]
      have P3 : RQf s s3 := (p4.q.tr q2).tr t4
      have go : ∀ ch z : Int, (ch = 60 ∧ z = 7) ∨ (ch = 62 ∧ z = 8) ∨ (ch = 61 ∧ z = 9) → isSg T n a.2 ch = true → ∃ s', f_X10_qFact_j63 (Int32.ofInt ch) s3 = some s' ∧ RQf s s' ∧ RQ (sq (sumT T n true d (nxS T n a.2)) (fun l2 c2 => .ok (a.1 ++ l2 ++ [z], c2))) (fun a => MZ T n true 0 a.2 (cs ++ a.1) W o s') (fun k q => RB k q s') := by
        intro ch z hz hsg
        have hsb := sg_b hsg (by omega) r3
        have elk : lkV T n (frm T n a.2) = ch := of_decide_eq_true (by rw [← sg_lk (by omega)]; exact hsg)
        obtain ⟨s4, u1, u2, u3, u4⟩ := m_pass t3 (ch := ch) (by omega) (by omega) hsg
        have es4 : s4 = uI s3 65 2 (Int32.ofInt (frm T n a.2 + 1)) := by
          have hl := m_lookL t2
          rw [elk] at hl
          have : f_X10_takesSign (Int32.ofInt ch) s3 = some (Int32.ofInt 1, uI s3 65 2 (Int32.ofInt (frm T n a.2 + 1))) := by
            simp (disch := omega) only [f_X10_takesSign, h53, hl, h2, n_i8, n_i16, n_0, n_31, n_add, n_sub, n_mul, n_neg, n_div, n_rem, n_le_t, n_le_f, n_lt_t, n_lt_f, n_eq_t, n_eq_f, n_cl, n_gd, n_gdt, n_nz, Int.reduceToNat, Int.reduceAdd, Int.reduceSub, Int.reduceMul, Int.reduceNeg, Int.reduceLT, Int.reduceLE, Int.reduceEq, Int.reduceDiv, Int.reduceMod, Nat.reduceAdd, Nat.reduceMul, ↓reduceIte, u_eq, u_no, u_nk, u_ek, u_2, u_3, j_1, j_3, j_eq, j_no, j_nk, ltd, bnd]
          rw [this] at u1
          exact (congrArg Prod.snd (Option.some.inj u1)).symm
        obtain ⟨s5, w1, w2, w3⟩ := m_qSums u2 hd hT
        have w1' : f_X10_qSums (uI s3 65 2 (Int32.ofInt (frm T n a.2 + 1))) = some s5 := by rw [← es4]; exact w1
        have ej : f_X10_qFact_j63 (Int32.ofInt ch) s3 = f_X10_qCode (Int32.ofInt z) s5 := by
          rcases hz with ⟨rfl, rfl⟩ | ⟨rfl, rfl⟩ | ⟨rfl, rfl⟩
          · simp (disch := omega) only [f_X10_qFact_j63, f_X10_qFact_j102, h2, ↓bb w1', n_i8, n_i16, n_0, n_31, n_add, n_sub, n_mul, n_neg, n_div, n_rem, n_le_t, n_le_f, n_lt_t, n_lt_f, n_eq_t, n_eq_f, n_cl, n_gd, n_gdt, n_nz, Int.reduceToNat, Int.reduceAdd, Int.reduceSub, Int.reduceMul, Int.reduceNeg, Int.reduceLT, Int.reduceLE, Int.reduceEq, Int.reduceDiv, Int.reduceMod, Nat.reduceAdd, Nat.reduceMul, ↓reduceIte, ltd, Option.bind_fun_some]
          · simp (disch := omega) only [f_X10_qFact_j63, f_X10_qFact_j102, h2, ↓bb w1', n_i8, n_i16, n_0, n_31, n_add, n_sub, n_mul, n_neg, n_div, n_rem, n_le_t, n_le_f, n_lt_t, n_lt_f, n_eq_t, n_eq_f, n_cl, n_gd, n_gdt, n_nz, Int.reduceToNat, Int.reduceAdd, Int.reduceSub, Int.reduceMul, Int.reduceNeg, Int.reduceLT, Int.reduceLE, Int.reduceEq, Int.reduceDiv, Int.reduceMod, Nat.reduceAdd, Nat.reduceMul, ↓reduceIte, ltd, Option.bind_fun_some]
          · simp (disch := omega) only [f_X10_qFact_j63, f_X10_qFact_j102, h2, ↓bb w1', n_i8, n_i16, n_0, n_31, n_add, n_sub, n_mul, n_neg, n_div, n_rem, n_le_t, n_le_f, n_lt_t, n_lt_f, n_eq_t, n_eq_f, n_cl, n_gd, n_gdt, n_nz, Int.reduceToNat, Int.reduceAdd, Int.reduceSub, Int.reduceMul, Int.reduceNeg, Int.reduceLT, Int.reduceLE, Int.reduceEq, Int.reduceDiv, Int.reduceMod, Nat.reduceAdd, Nat.reduceMul, ↓reduceIte, ltd, Option.bind_fun_some]
        rw [ej]
        have hr2 := sumT_b (T := T) (n := n) (m := true) d (nxS T n a.2) (by omega) hsb.2
        cases eS2 : sumT T n true d (nxS T n a.2) with
        | error x =>
          rw [eS2] at w3
          obtain ⟨w3, N, n0, n1, hN⟩ := (w3 : RB x.1 x.2 s5 ∧ QN s5)
          have hcl : (Int32.ofInt N).toNatClampNeg = N.toNat := n_cl (by omega) (by omega)
          have hf6 : RQf s5 (uI (uI s5 146 N.toNat (Int32.ofInt z)) 65 111 (Int32.ofInt (N + 1))) := ⟨fun o k x y z => by (simp only [ua, ja, u_2, u_3, j_1, j_3]; (repeat' split) <;> first | rfl | (exfalso; omega)), rfl⟩
          refine ⟨uI (uI s5 146 N.toNat (Int32.ofInt z)) 65 111 (Int32.ofInt (N + 1)), ?_, ((P3.tr u4).tr w2).tr hf6, RB_fr w3 (by rw [u_nk (by omega), u_no (by omega)]) (by rw [u_nk (by omega), u_no (by omega)])⟩
          simp (disch := omega) only [f_X10_qCode, hN, hcl, n_i8, n_i16, n_0, n_31, n_add, n_sub, n_mul, n_neg, n_div, n_rem, n_le_t, n_le_f, n_lt_t, n_lt_f, n_eq_t, n_eq_f, n_cl, n_gd, n_gdt, n_nz, Int.reduceToNat, Int.reduceAdd, Int.reduceSub, Int.reduceMul, Int.reduceNeg, Int.reduceLT, Int.reduceLE, Int.reduceEq, Int.reduceDiv, Int.reduceMod, Nat.reduceAdd, Nat.reduceMul, ↓reduceIte, u_eq, u_no, u_nk, u_ek, u_2, u_3, j_1, j_3, j_eq, j_no, j_nk, ltd, bnd]
        | ok a2 =>
          rw [eS2] at w3 hr2
          have w3 : MZ T n true 0 a2.2 (cs ++ a.1 ++ a2.1) W o s5 := w3
          obtain ⟨l1, l2, l3⟩ := (hr2 : (nxS T n a.2).1 + a2.1.length ≤ a2.2.1 ∧ (nxS T n a.2).1 < a2.2.1 ∧ a2.2.1 ≤ n)
          have hsz5 := w3.2.2.2.2
          obtain ⟨s6, g1, g2, g3⟩ := m_qcode w3.2.2.1 (by have := w3.nb; omega) z
          have hlen : ((cs ++ a.1 ++ a2.1).length : Int) = cs.length + a.1.length + a2.1.length := by rw [List.length_append, List.length_append]; omega
          refine ⟨s6, g1, ((P3.tr u4).tr w2).tr g3.q, ?_⟩
          show MZ T n true 0 a2.2 (cs ++ (a.1 ++ a2.1 ++ [z])) W o s6
          rw [show cs ++ (a.1 ++ a2.1 ++ [z]) = cs ++ a.1 ++ a2.1 ++ [z] by rw [List.append_assoc, List.append_assoc, List.append_assoc]]
          refine w3.w g3 g2 (by omega) ?_
          rw [ln1]
          omega
      show ∃ s', _ ∧ RQf s s' ∧ RQ (cmpB T n (sumT T n true d) a.1 a.2) _ _
      unfold cmpB
      cases e60 : isSg T n a.2 60 with
      | true =>
        rw [if_pos rfl]
        have elk : lkV T n (frm T n a.2) = 60 := of_decide_eq_true (by rw [← sg_lk (by omega)]; exact e60)
        obtain ⟨s', g1, g2⟩ := go 60 7 (Or.inl ⟨rfl, rfl⟩) e60
        refine ⟨s', ?_, g2⟩
        rw [← g1, elk]
        simp (disch := omega) only [n_i8, n_i16, n_0, n_31, n_add, n_sub, n_mul, n_neg, n_div, n_rem, n_le_t, n_le_f, n_lt_t, n_lt_f, n_eq_t, n_eq_f, n_cl, n_gd, n_gdt, n_nz, Int.reduceToNat, Int.reduceAdd, Int.reduceSub, Int.reduceMul, Int.reduceNeg, Int.reduceLT, Int.reduceLE, Int.reduceEq, Int.reduceDiv, Int.reduceMod, Nat.reduceAdd, Nat.reduceMul, ↓reduceIte]
      | false =>
        rw [if_neg (show ¬ (false = true) from by decide)]
        have n60 : ¬ lkV T n (frm T n a.2) = 60 := fun x => by rw [sg_lk (by omega), decide_eq_true x] at e60; cases e60
        cases e62 : isSg T n a.2 62 with
        | true =>
          rw [if_pos rfl]
          have elk : lkV T n (frm T n a.2) = 62 := of_decide_eq_true (by rw [← sg_lk (by omega)]; exact e62)
          obtain ⟨s', g1, g2⟩ := go 62 8 (Or.inr (Or.inl ⟨rfl, rfl⟩)) e62
          refine ⟨s', ?_, g2⟩
          rw [← g1, elk]
          simp (disch := omega) only [n_i8, n_i16, n_0, n_31, n_add, n_sub, n_mul, n_neg, n_div, n_rem, n_le_t, n_le_f, n_lt_t, n_lt_f, n_eq_t, n_eq_f, n_cl, n_gd, n_gdt, n_nz, Int.reduceToNat, Int.reduceAdd, Int.reduceSub, Int.reduceMul, Int.reduceNeg, Int.reduceLT, Int.reduceLE, Int.reduceEq, Int.reduceDiv, Int.reduceMod, Nat.reduceAdd, Nat.reduceMul, ↓reduceIte]
        | false =>
          rw [if_neg (show ¬ (false = true) from by decide)]
          have n62 : ¬ lkV T n (frm T n a.2) = 62 := fun x => by rw [sg_lk (by omega), decide_eq_true x] at e62; cases e62
          cases e61 : isSg T n a.2 61 with
          | true =>
            rw [if_pos rfl]
            have elk : lkV T n (frm T n a.2) = 61 := of_decide_eq_true (by rw [← sg_lk (by omega)]; exact e61)
            obtain ⟨s', g1, g2⟩ := go 61 9 (Or.inr (Or.inr ⟨rfl, rfl⟩)) e61
            refine ⟨s', ?_, g2⟩
            rw [← g1, elk]
            simp (disch := omega) only [n_i8, n_i16, n_0, n_31, n_add, n_sub, n_mul, n_neg, n_div, n_rem, n_le_t, n_le_f, n_lt_t, n_lt_f, n_eq_t, n_eq_f, n_cl, n_gd, n_gdt, n_nz, Int.reduceToNat, Int.reduceAdd, Int.reduceSub, Int.reduceMul, Int.reduceNeg, Int.reduceLT, Int.reduceLE, Int.reduceEq, Int.reduceDiv, Int.reduceMod, Nat.reduceAdd, Nat.reduceMul, ↓reduceIte]
          | false =>
            rw [if_neg (show ¬ (false = true) from by decide)]
            have n61 : ¬ lkV T n (frm T n a.2) = 61 := fun x => by rw [sg_lk (by omega), decide_eq_true x] at e61; cases e61
            obtain ⟨s4, f1, f2, f3⟩ := m_fail (k := 1) (p := frm T n a.2) h53 (by omega) (by omega)
            refine ⟨s4, ?_, P3.tr f3.q, f2⟩
            simp (disch := omega) only [h2, ↓bb f1, n_i8, n_i16, n_0, n_31, n_add, n_sub, n_mul, n_neg, n_div, n_rem, n_le_t, n_le_f, n_lt_t, n_lt_f, n_eq_t, n_eq_f, n_cl, n_gd, n_gdt, n_nz, Int.reduceToNat, Int.reduceAdd, Int.reduceSub, Int.reduceMul, Int.reduceNeg, Int.reduceLT, Int.reduceLE, Int.reduceEq, Int.reduceDiv, Int.reduceMod, Nat.reduceAdd, Nat.reduceMul, ↓reduceIte]
