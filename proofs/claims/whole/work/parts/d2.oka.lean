/-! L3: ask: both answer alike -/
def Rl (k i a : Int) (z : Bool) (x2 x3 x4 x5 x7 x8 : Int) : Prop := ((z = true ∧ x4 = 0) ∨ (z = false ∧ 0 < x4)) ∧ x4 ≤ i ∧ (-1 ≤ x2 ∧ x2 ≤ 8) ∧ (-1 ≤ x3 ∧ x3 ≤ 8) ∧ (-(1000000 * (i + 1)) ≤ x5 ∧ x5 ≤ 1000000 * (i + 1)) ∧ (-1000000 ≤ x7 ∧ x7 ≤ 1000000) ∧ (-1000000 ≤ x8 ∧ x8 ≤ 1000000) ∧ (k = 0 → x2 = a) ∧ (k = 1 → x3 = a) ∧ (k = 2 → x5 = a) ∧ (k = 3 → x5 = a) ∧ (k = 4 → x7 = a) ∧ (k = 5 → x8 = a)
theorem Rl_step {k i a v : Int} {z : Bool} {x2 x3 x4 x5 x7 x8 : Int} (h : Rl k i a z x2 x3 x4 x5 x7 x8) (i0 : 0 ≤ i) (i8 : i ≤ 8) (hv : lb v) (h01 : k < 3 → v = 0 ∨ v = 1) : Rl k (i + 1) (qS1 k i v a z) false (if v = 0 then x2 else if 0 ≤ x2 then x2 else i) (if v = 0 then x3 else i) (x4 + 1) (x5 + v) (if x4 = 0 then v else if x7 < v then v else x7) (if x4 = 0 then v else if v < x8 then v else x8) := by
  obtain ⟨h1, h2, h3, h4, h5, h6, h7, g0, g1, g2, g3, g4, g5⟩ := h
  unfold lb at hv
  refine ⟨Or.inr ⟨rfl, by omega⟩, by omega, ?_, ?_, by omega, ?_, ?_, fun e => ?_, fun e => ?_, fun e => ?_, fun e => ?_, fun e => ?_, fun e => ?_⟩
  · (repeat' split) <;> omega
  · (repeat' split) <;> omega
  · (repeat' split) <;> omega
  · (repeat' split) <;> omega
  · have := g0 e
    have h01 := h01 (by omega)
    subst e
    rw [qS1_0]
    (repeat' split) <;> omega
  · have := g1 e
    have h01 := h01 (by omega)
    subst e
    rw [qS1_1]
    (repeat' split) <;> omega
  · have := g2 e
    have h01 := h01 (by omega)
    subst e
    rw [qS1_2]
    (repeat' split) <;> omega
  · have := g3 e
    subst e
    rw [qS1_3]
    omega
  · have := g4 e
    subst e
    rw [qS1_4]
    rcases h1 with ⟨rfl, x⟩ | ⟨rfl, x⟩
    · rw [if_pos x, if_pos (Or.inl rfl)]
    · rw [if_neg (by omega)]
      by_cases y : a < v
      · rw [if_pos (by omega), if_pos (Or.inr y)]
      · rw [if_neg (by omega), if_neg (fun w => by rcases w with w | w; cases w; omega)]; omega
  · have := g5 e
    subst e
    rw [qS1_5]
    rcases h1 with ⟨rfl, x⟩ | ⟨rfl, x⟩
    · rw [if_pos x, if_pos (Or.inl rfl)]
    · rw [if_neg (by omega)]
      by_cases y : v < a
      · rw [if_pos (by omega), if_pos (Or.inr y)]
      · rw [if_neg (by omega), if_neg (fun w => by rcases w with w | w; cases w; omega)]; omega
theorem if_mx {x v : Int} (h1 : -1000000 ≤ x) (h2 : x ≤ 1000000) (h3 : -1000000 ≤ v) (h4 : v ≤ 1000000) : (if Int32.ofInt x < Int32.ofInt v then Int32.ofInt v else Int32.ofInt x) = Int32.ofInt (if x < v then v else x) := by
  by_cases e : x < v
  · rw [if_pos e]; simp (disch := omega) only [n_i8, n_i16, n_0, n_31, n_add, n_sub, n_mul, n_neg, n_div, n_rem, n_le_t, n_le_f, n_lt_t, n_lt_f, n_eq_t, n_eq_f, n_cl, n_gd, n_gdt, n_nz, Int.reduceToNat, Int.reduceAdd, Int.reduceSub, Int.reduceMul, Int.reduceNeg, Int.reduceLT, Int.reduceLE, Int.reduceEq, Int.reduceDiv, Int.reduceMod, Nat.reduceAdd, Nat.reduceMul, ↓reduceIte]
  · rw [if_neg e]; simp (disch := omega) only [n_i8, n_i16, n_0, n_31, n_add, n_sub, n_mul, n_neg, n_div, n_rem, n_le_t, n_le_f, n_lt_t, n_lt_f, n_eq_t, n_eq_f, n_cl, n_gd, n_gdt, n_nz, Int.reduceToNat, Int.reduceAdd, Int.reduceSub, Int.reduceMul, Int.reduceNeg, Int.reduceLT, Int.reduceLE, Int.reduceEq, Int.reduceDiv, Int.reduceMod, Nat.reduceAdd, Nat.reduceMul, ↓reduceIte]
def CAQ (B : Brd) (G : Gam) (p : Nat) (l : List Int) (s : ST) : Prop := GA B G 36 p s ∧ s.1 36 1 = Int32.ofInt (gd_ G) ∧ RR s.2.2 0 3 = some p ∧ s.1 34 1 = Int32.ofInt (l.length : Int) ∧ ∀ i : Nat, i < l.length → s.1 35 i = Int32.ofInt (toC (l.getD i 0))
theorem CAQ_f {B : Brd} {G : Gam} {p : Nat} {l : List Int} {s s' : ST} (h : CAQ B G p l s) (hf : AOf 36 s s') : CAQ B G p l s' := ⟨GA_ao h.1 hf, (hf.1 _ _ (by omega)).trans h.2.1, by rw [hf.2]; exact h.2.2.1, (hf.1 _ _ (by omega)).trans h.2.2.2.1, fun i hi => (hf.1 _ _ (by omega)).trans (h.2.2.2.2 i hi)⟩
theorem c_ans_L {B : Brd} {G : Gam} {p : Nat} {l : List Int} {k : Int} (hV : AV k l) (K : Int32 → Int32 → Int32 → Int64 → Int32 → Int32 → ST → Option (Int64 × ST)) : ∀ (nn F : Nat) (i a : Int) (z : Bool) (x2 x3 x4 x5 x7 x8 : Int) (s : ST), CAQ B G p l s → 0 ≤ i → (nn : Int) = bM B - i → nn < F → Rl k i a z x2 x3 x4 x5 x7 x8 → ∃ (z' : Bool) (y2 y3 y4 y5 y7 y8 : Int) (s' : ST), f_X9_answer_L19 K F (Int32.ofInt (k + 33)) (Int32.ofInt x2) (Int32.ofInt x3) (Int32.ofInt x4) (Int64.ofInt x5) (Int32.ofInt x7) (Int32.ofInt x8) (Int32.ofInt i) s = K (Int32.ofInt (k + 33)) (Int32.ofInt y2) (Int32.ofInt y3) (Int64.ofInt y5) (Int32.ofInt y7) (Int32.ofInt y8) s' ∧ Rl k (bM B) (qFo G (qVa B G l) k nn i a z) z' y2 y3 y4 y5 y7 y8 ∧ AOf 36 s s' := by
  obtain ⟨⟨k0, k5⟩, hl, hty, hcd⟩ := hV
  intro nn
  induction nn with
  | zero =>
    intro F i a z x2 x3 x4 x5 x7 x8 s h i0 hn hF hR
    obtain ⟨F, rfl⟩ : ∃ F', F = F' + 1 := ⟨F - 1, by omega⟩
    have hB := h.1.1.1
    have hp := h.1.2.1.2
    have hM : bM B ≤ 8 := hB.1.1.2.2.2.2.2.2.2.1
    have h3 := h.2.2.1
    have c8 := h.1.2.2.2.1.1.2.2.2.1
    have ei : i = bM B := by omega
    refine ⟨z, x2, x3, x4, x5, x7, x8, s, ?_, ?_, AOf.rf 36 s⟩
    · simp (disch := omega) only [f_X9_answer_L19, ↓bb h3, c8, g_kk, g_k1, g_n1, g_k2, g_n2, g_k3, g_n3, g_k4, g_n4, g_k5, g_n5, g_k7, g_n7, g_k8, g_n8, g_k9, g_n9, g_k6, g_r3, g_r4, g_r5, g_r6, g_r7, g_r10, g_q0, g_q1, g_q2, p_kk, p_k1, p_n1, p_k2, p_n2, p_k3, p_n3, p_k4, p_n4, p_k5, p_n5, p_k6, p_n6, p_k7, p_n7, p_k8, p_n8, p_k9, p_n9, p_k10, p_n10, p_k11, p_n11, p_k13, p_n13, p_k12, p_r2, p_r4, p_r5, p_r6, p_r7, p_r9, p_r10, p_r11, p_r13, p_r14, p_r15, p_r16, p_h0, n_i8, n_i16, n_0, n_31, n_add, n_sub, n_mul, n_neg, n_div, n_rem, n_le_t, n_le_f, n_lt_t, n_lt_f, n_eq_t, n_eq_f, n_cl, n_gd, n_gdt, n_nz, Int.reduceToNat, Int.reduceAdd, Int.reduceSub, Int.reduceMul, Int.reduceNeg, Int.reduceLT, Int.reduceLE, Int.reduceEq, Int.reduceDiv, Int.reduceMod, Nat.reduceAdd, Nat.reduceMul, ↓reduceIte]
    · rw [← ei]
      exact hR
  | succ nn ih =>
    intro F i a z x2 x3 x4 x5 x7 x8 s h i0 hn hF hR
    obtain ⟨F, rfl⟩ : ∃ F', F = F' + 1 := ⟨F - 1, by omega⟩
    have hB := h.1.1.1
    have hG := h.1.1.2
    have hp := h.1.2.1.2
    have hM : bM B ≤ 8 := hB.1.1.2.2.2.2.2.2.2.1
    have h3 := h.2.2.1
    have c8 := h.1.2.2.2.1.1.2.2.2.1
    have c38 : s.1 38 i.toNat = Int32.ofInt (pl G i) := h.1.2.2.2.2.1 i i0 (by omega)
    unfold qFo
    by_cases e : gx G i = -1
    · rw [if_pos e]
      have epl : pl G i = -1 := by unfold pl; rw [if_pos e]
      rw [epl] at c38
      obtain ⟨h1, h2, h3', h4, h5, h6⟩ := hR
      obtain ⟨z', y2, y3, y4, y5, y7, y8, s', q1, q2⟩ := ih F (i + 1) a z x2 x3 x4 x5 x7 x8 s h (by omega) (by omega) (by omega) ⟨h1, by omega, h3', h4, by omega, h6⟩
      refine ⟨z', y2, y3, y4, y5, y7, y8, s', ?_, q2⟩
      rw [← q1, f_X9_answer_L19]
      simp (disch := omega) only [↓bb h3, c8, c38, g_kk, g_k1, g_n1, g_k2, g_n2, g_k3, g_n3, g_k4, g_n4, g_k5, g_n5, g_k7, g_n7, g_k8, g_n8, g_k9, g_n9, g_k6, g_r3, g_r4, g_r5, g_r6, g_r7, g_r10, g_q0, g_q1, g_q2, p_kk, p_k1, p_n1, p_k2, p_n2, p_k3, p_n3, p_k4, p_n4, p_k5, p_n5, p_k6, p_n6, p_k7, p_n7, p_k8, p_n8, p_k9, p_n9, p_k10, p_n10, p_k11, p_n11, p_k13, p_n13, p_k12, p_r2, p_r4, p_r5, p_r6, p_r7, p_r9, p_r10, p_r11, p_r13, p_r14, p_r15, p_r16, p_h0, n_i8, n_i16, n_0, n_31, n_add, n_sub, n_mul, n_neg, n_div, n_rem, n_le_t, n_le_f, n_lt_t, n_lt_f, n_eq_t, n_eq_f, n_cl, n_gd, n_gdt, n_nz, Int.reduceToNat, Int.reduceAdd, Int.reduceSub, Int.reduceMul, Int.reduceNeg, Int.reduceLT, Int.reduceLE, Int.reduceEq, Int.reduceDiv, Int.reduceMod, Nat.reduceAdd, Nat.reduceMul, ↓reduceIte]
    · rw [if_neg e]
      obtain ⟨hb, hpl⟩ := plc_b hB hG i0 (show i < bM B by omega) e
      rw [hpl] at c38
      obtain ⟨s1, p1, p2, p3⟩ := c_ansOf h.1 h.2.1 i0 (show i < bM B by omega) e hl hcd hty h.2.2.2.1 h.2.2.2.2
      generalize qVa B G l i = v at *
      have hRs := Rl_step hR i0 (by omega) p2.1 (fun x => p2.2 (decide_eq_true x))
      obtain ⟨z', y2, y3, y4, y5, y7, y8, s', q1, q2, q3⟩ := ih F (i + 1) _ false _ _ _ _ _ _ s1 (CAQ_f h p3) (by omega) (by omega) (by omega) hRs
      refine ⟨z', y2, y3, y4, y5, y7, y8, s', ?_, q2, p3.tr q3⟩
      obtain ⟨h1, h2, h3', h4, h5, h6, h7, -⟩ := hR
      have hvb := p2.1
      unfold lb at hvb
      have m1 := if_mx (x := x7) (v := v) (by omega) (by omega) (by omega) (by omega)
      have m2 : (if Int32.ofInt v < Int32.ofInt x8 then Int32.ofInt v else Int32.ofInt x8) = Int32.ofInt (if v < x8 then v else x8) := by
        by_cases y : v < x8
        · rw [if_pos y]; simp (disch := omega) only [n_i8, n_i16, n_0, n_31, n_add, n_sub, n_mul, n_neg, n_div, n_rem, n_le_t, n_le_f, n_lt_t, n_lt_f, n_eq_t, n_eq_f, n_cl, n_gd, n_gdt, n_nz, Int.reduceToNat, Int.reduceAdd, Int.reduceSub, Int.reduceMul, Int.reduceNeg, Int.reduceLT, Int.reduceLE, Int.reduceEq, Int.reduceDiv, Int.reduceMod, Nat.reduceAdd, Nat.reduceMul, ↓reduceIte]
        · rw [if_neg y]; simp (disch := omega) only [n_i8, n_i16, n_0, n_31, n_add, n_sub, n_mul, n_neg, n_div, n_rem, n_le_t, n_le_f, n_lt_t, n_lt_f, n_eq_t, n_eq_f, n_cl, n_gd, n_gdt, n_nz, Int.reduceToNat, Int.reduceAdd, Int.reduceSub, Int.reduceMul, Int.reduceNeg, Int.reduceLT, Int.reduceLE, Int.reduceEq, Int.reduceDiv, Int.reduceMod, Nat.reduceAdd, Nat.reduceMul, ↓reduceIte]
      rw [← q1, f_X9_answer_L19]
      by_cases e4 : x4 = 0
      · rw [if_pos e4, if_pos e4]
        by_cases ev : v = 0
        · rw [if_pos ev, if_pos ev]
          simp (disch := omega) only [f_X9_answer_j79, f_X9_answer_j98, ↓bb h3, c8, c38, ↓bb p1, g_kk, g_k1, g_n1, g_k2, g_n2, g_k3, g_n3, g_k4, g_n4, g_k5, g_n5, g_k7, g_n7, g_k8, g_n8, g_k9, g_n9, g_k6, g_r3, g_r4, g_r5, g_r6, g_r7, g_r10, g_q0, g_q1, g_q2, p_kk, p_k1, p_n1, p_k2, p_n2, p_k3, p_n3, p_k4, p_n4, p_k5, p_n5, p_k6, p_n6, p_k7, p_n7, p_k8, p_n8, p_k9, p_n9, p_k10, p_n10, p_k11, p_n11, p_k13, p_n13, p_k12, p_r2, p_r4, p_r5, p_r6, p_r7, p_r9, p_r10, p_r11, p_r13, p_r14, p_r15, p_r16, p_h0, n_i8, n_i16, n_0, n_31, n_add, n_sub, n_mul, n_neg, n_div, n_rem, n_le_t, n_le_f, n_lt_t, n_lt_f, n_eq_t, n_eq_f, n_cl, n_gd, n_gdt, n_nz, Int.reduceToNat, Int.reduceAdd, Int.reduceSub, Int.reduceMul, Int.reduceNeg, Int.reduceLT, Int.reduceLE, Int.reduceEq, Int.reduceDiv, Int.reduceMod, Nat.reduceAdd, Nat.reduceMul, ↓reduceIte, l_0, l_1, l_00, l_i, l_j, l_add, l_sub, l_mul, l_gt, l_ceq, l_clt, l_nz]
        · rw [if_neg ev, if_neg ev]
          by_cases e2 : 0 ≤ x2
          · rw [if_pos e2]
            simp (disch := omega) only [f_X9_answer_j79, f_X9_answer_j98, f_X9_answer_j126, ↓bb h3, c8, c38, ↓bb p1, g_kk, g_k1, g_n1, g_k2, g_n2, g_k3, g_n3, g_k4, g_n4, g_k5, g_n5, g_k7, g_n7, g_k8, g_n8, g_k9, g_n9, g_k6, g_r3, g_r4, g_r5, g_r6, g_r7, g_r10, g_q0, g_q1, g_q2, p_kk, p_k1, p_n1, p_k2, p_n2, p_k3, p_n3, p_k4, p_n4, p_k5, p_n5, p_k6, p_n6, p_k7, p_n7, p_k8, p_n8, p_k9, p_n9, p_k10, p_n10, p_k11, p_n11, p_k13, p_n13, p_k12, p_r2, p_r4, p_r5, p_r6, p_r7, p_r9, p_r10, p_r11, p_r13, p_r14, p_r15, p_r16, p_h0, n_i8, n_i16, n_0, n_31, n_add, n_sub, n_mul, n_neg, n_div, n_rem, n_le_t, n_le_f, n_lt_t, n_lt_f, n_eq_t, n_eq_f, n_cl, n_gd, n_gdt, n_nz, Int.reduceToNat, Int.reduceAdd, Int.reduceSub, Int.reduceMul, Int.reduceNeg, Int.reduceLT, Int.reduceLE, Int.reduceEq, Int.reduceDiv, Int.reduceMod, Nat.reduceAdd, Nat.reduceMul, ↓reduceIte, l_0, l_1, l_00, l_i, l_j, l_add, l_sub, l_mul, l_gt, l_ceq, l_clt, l_nz]
          · rw [if_neg e2]
            simp (disch := omega) only [f_X9_answer_j79, f_X9_answer_j98, f_X9_answer_j126, ↓bb h3, c8, c38, ↓bb p1, g_kk, g_k1, g_n1, g_k2, g_n2, g_k3, g_n3, g_k4, g_n4, g_k5, g_n5, g_k7, g_n7, g_k8, g_n8, g_k9, g_n9, g_k6, g_r3, g_r4, g_r5, g_r6, g_r7, g_r10, g_q0, g_q1, g_q2, p_kk, p_k1, p_n1, p_k2, p_n2, p_k3, p_n3, p_k4, p_n4, p_k5, p_n5, p_k6, p_n6, p_k7, p_n7, p_k8, p_n8, p_k9, p_n9, p_k10, p_n10, p_k11, p_n11, p_k13, p_n13, p_k12, p_r2, p_r4, p_r5, p_r6, p_r7, p_r9, p_r10, p_r11, p_r13, p_r14, p_r15, p_r16, p_h0, n_i8, n_i16, n_0, n_31, n_add, n_sub, n_mul, n_neg, n_div, n_rem, n_le_t, n_le_f, n_lt_t, n_lt_f, n_eq_t, n_eq_f, n_cl, n_gd, n_gdt, n_nz, Int.reduceToNat, Int.reduceAdd, Int.reduceSub, Int.reduceMul, Int.reduceNeg, Int.reduceLT, Int.reduceLE, Int.reduceEq, Int.reduceDiv, Int.reduceMod, Nat.reduceAdd, Nat.reduceMul, ↓reduceIte, l_0, l_1, l_00, l_i, l_j, l_add, l_sub, l_mul, l_gt, l_ceq, l_clt, l_nz]
      · rw [if_neg e4, if_neg e4]
        generalize (if x7 < v then v else x7) = w7 at *
        generalize (if v < x8 then v else x8) = w8 at *
        by_cases ev : v = 0
        · rw [if_pos ev, if_pos ev]
          simp (disch := omega) only [f_X9_answer_j79, f_X9_answer_j98, ↓bb h3, c8, c38, ↓bb p1, m1, m2, g_kk, g_k1, g_n1, g_k2, g_n2, g_k3, g_n3, g_k4, g_n4, g_k5, g_n5, g_k7, g_n7, g_k8, g_n8, g_k9, g_n9, g_k6, g_r3, g_r4, g_r5, g_r6, g_r7, g_r10, g_q0, g_q1, g_q2, p_kk, p_k1, p_n1, p_k2, p_n2, p_k3, p_n3, p_k4, p_n4, p_k5, p_n5, p_k6, p_n6, p_k7, p_n7, p_k8, p_n8, p_k9, p_n9, p_k10, p_n10, p_k11, p_n11, p_k13, p_n13, p_k12, p_r2, p_r4, p_r5, p_r6, p_r7, p_r9, p_r10, p_r11, p_r13, p_r14, p_r15, p_r16, p_h0, n_i8, n_i16, n_0, n_31, n_add, n_sub, n_mul, n_neg, n_div, n_rem, n_le_t, n_le_f, n_lt_t, n_lt_f, n_eq_t, n_eq_f, n_cl, n_gd, n_gdt, n_nz, Int.reduceToNat, Int.reduceAdd, Int.reduceSub, Int.reduceMul, Int.reduceNeg, Int.reduceLT, Int.reduceLE, Int.reduceEq, Int.reduceDiv, Int.reduceMod, Nat.reduceAdd, Nat.reduceMul, ↓reduceIte, l_0, l_1, l_00, l_i, l_j, l_add, l_sub, l_mul, l_gt, l_ceq, l_clt, l_nz]
        · rw [if_neg ev, if_neg ev]
          by_cases e2 : 0 ≤ x2
          · rw [if_pos e2]
            simp (disch := omega) only [f_X9_answer_j79, f_X9_answer_j98, f_X9_answer_j126, ↓bb h3, c8, c38, ↓bb p1, m1, m2, g_kk, g_k1, g_n1, g_k2, g_n2, g_k3, g_n3, g_k4, g_n4, g_k5, g_n5, g_k7, g_n7, g_k8, g_n8, g_k9, g_n9, g_k6, g_r3, g_r4, g_r5, g_r6, g_r7, g_r10, g_q0, g_q1, g_q2, p_kk, p_k1, p_n1, p_k2, p_n2, p_k3, p_n3, p_k4, p_n4, p_k5, p_n5, p_k6, p_n6, p_k7, p_n7, p_k8, p_n8, p_k9, p_n9, p_k10, p_n10, p_k11, p_n11, p_k13, p_n13, p_k12, p_r2, p_r4, p_r5, p_r6, p_r7, p_r9, p_r10, p_r11, p_r13, p_r14, p_r15, p_r16, p_h0, n_i8, n_i16, n_0, n_31, n_add, n_sub, n_mul, n_neg, n_div, n_rem, n_le_t, n_le_f, n_lt_t, n_lt_f, n_eq_t, n_eq_f, n_cl, n_gd, n_gdt, n_nz, Int.reduceToNat, Int.reduceAdd, Int.reduceSub, Int.reduceMul, Int.reduceNeg, Int.reduceLT, Int.reduceLE, Int.reduceEq, Int.reduceDiv, Int.reduceMod, Nat.reduceAdd, Nat.reduceMul, ↓reduceIte, l_0, l_1, l_00, l_i, l_j, l_add, l_sub, l_mul, l_gt, l_ceq, l_clt, l_nz]
          · rw [if_neg e2]
            simp (disch := omega) only [f_X9_answer_j79, f_X9_answer_j98, f_X9_answer_j126, ↓bb h3, c8, c38, ↓bb p1, m1, m2, g_kk, g_k1, g_n1, g_k2, g_n2, g_k3, g_n3, g_k4, g_n4, g_k5, g_n5, g_k7, g_n7, g_k8, g_n8, g_k9, g_n9, g_k6, g_r3, g_r4, g_r5, g_r6, g_r7, g_r10, g_q0, g_q1, g_q2, p_kk, p_k1, p_n1, p_k2, p_n2, p_k3, p_n3, p_k4, p_n4, p_k5, p_n5, p_k6, p_n6, p_k7, p_n7, p_k8, p_n8, p_k9, p_n9, p_k10, p_n10, p_k11, p_n11, p_k13, p_n13, p_k12, p_r2, p_r4, p_r5, p_r6, p_r7, p_r9, p_r10, p_r11, p_r13, p_r14, p_r15, p_r16, p_h0, n_i8, n_i16, n_0, n_31, n_add, n_sub, n_mul, n_neg, n_div, n_rem, n_le_t, n_le_f, n_lt_t, n_lt_f, n_eq_t, n_eq_f, n_cl, n_gd, n_gdt, n_nz, Int.reduceToNat, Int.reduceAdd, Int.reduceSub, Int.reduceMul, Int.reduceNeg, Int.reduceLT, Int.reduceLE, Int.reduceEq, Int.reduceDiv, Int.reduceMod, Nat.reduceAdd, Nat.reduceMul, ↓reduceIte, l_0, l_1, l_00, l_i, l_j, l_add, l_sub, l_mul, l_gt, l_ceq, l_clt, l_nz]
theorem c_answer {B : Brd} {G : Gam} {p : Nat} {l : List Int} {k : Int} (hV : AV k l) {s : ST} (h : CAQ B G p l s) : ∃ s', f_X9_answer (Int32.ofInt (k + 33)) s = some (Int64.ofInt (qAn B G k l), s') ∧ AOf 36 s s' := by
  have hB := h.1.1.1
  have hM : bM B ≤ 8 := hB.1.1.2.2.2.2.2.2.2.1
  have hM0 : 0 ≤ bM B := hB.1.1.2.2.2.2.2.2.1
  obtain ⟨k0, k5⟩ := hV.1
  have hR0 : Rl k 0 (if 2 ≤ k then 0 else -1) true (-1) (-1) 0 0 0 0 := by
    refine ⟨Or.inl ⟨rfl, rfl⟩, by omega, by omega, by omega, by omega, by omega, by omega, fun e => ?_, fun e => ?_, fun e => ?_, fun e => ?_, fun e => ?_, fun e => ?_⟩
    · rw [if_neg (by omega)]
    · rw [if_neg (by omega)]
    · rw [if_pos (by omega)]
    · rw [if_pos (by omega)]
    · rw [if_pos (by omega)]
    · rw [if_pos (by omega)]
  obtain ⟨z', y2, y3, y4, y5, y7, y8, s', q1, q2, q3⟩ := c_ans_L hV f_X9_answer_j136 (bM B).toNat fuel 0 _ true (-1) (-1) 0 0 0 0 s h (by omega) (by omega) (by unfold fuel; omega) hR0
  refine ⟨s', ?_, q3⟩
  have e0 : f_X9_answer (Int32.ofInt (k + 33)) s = f_X9_answer_j136 (Int32.ofInt (k + 33)) (Int32.ofInt y2) (Int32.ofInt y3) (Int64.ofInt y5) (Int32.ofInt y7) (Int32.ofInt y8) s' := q1
  rw [e0]
  unfold qAn
  generalize qFo G (qVa B G l) k (bM B).toNat 0 (if 2 ≤ k then 0 else -1) true = r at *
  obtain ⟨h1, h2, h3, h4, h5, h6, h7, g0, g1, g2, g3, g4, g5⟩ := q2
  have hc : k = 0 ∨ k = 1 ∨ k = 2 ∨ k = 3 ∨ k = 4 ∨ k = 5 := by omega
  rcases hc with rfl | rfl | rfl | rfl | rfl | rfl
  · rw [← g0 rfl]
    simp (disch := omega) only [f_X9_answer_j136, n_l1, n_l2, n_l3, n_l4, n_l5, n_l6, n_l7, n_l8, n_l9, n_l10, n_l11, n_l12, n_l13, n_l14, n_l15, n_l16, n_l17, n_l18, n_l19, n_l20, n_l21, n_l22, n_l23, n_l24, n_l25, n_l26, n_l27, n_l28, n_l29, n_l30, n_l31, n_l32, n_l33, n_l34, n_l35, n_l36, n_l37, n_l38, n_l39, n_l40, n_l41, n_l42, n_l43, n_l44, n_l45, n_l46, n_l47, n_l48, n_l49, n_l50, n_l51, n_l52, n_l53, n_l54, n_l55, n_l56, n_l57, n_l58, n_l59, n_l60, n_i8, n_i16, n_0, n_31, n_add, n_sub, n_mul, n_neg, n_div, n_rem, n_le_t, n_le_f, n_lt_t, n_lt_f, n_eq_t, n_eq_f, n_cl, n_gd, n_gdt, n_nz, Int.reduceToNat, Int.reduceAdd, Int.reduceSub, Int.reduceMul, Int.reduceNeg, Int.reduceLT, Int.reduceLE, Int.reduceEq, Int.reduceDiv, Int.reduceMod, Nat.reduceAdd, Nat.reduceMul, ↓reduceIte, l_0, l_1, l_00, l_i, l_j, l_add, l_sub, l_mul, l_gt, l_ceq, l_clt, l_nz]
  · rw [← g1 rfl]
    simp (disch := omega) only [f_X9_answer_j136, n_l1, n_l2, n_l3, n_l4, n_l5, n_l6, n_l7, n_l8, n_l9, n_l10, n_l11, n_l12, n_l13, n_l14, n_l15, n_l16, n_l17, n_l18, n_l19, n_l20, n_l21, n_l22, n_l23, n_l24, n_l25, n_l26, n_l27, n_l28, n_l29, n_l30, n_l31, n_l32, n_l33, n_l34, n_l35, n_l36, n_l37, n_l38, n_l39, n_l40, n_l41, n_l42, n_l43, n_l44, n_l45, n_l46, n_l47, n_l48, n_l49, n_l50, n_l51, n_l52, n_l53, n_l54, n_l55, n_l56, n_l57, n_l58, n_l59, n_l60, n_i8, n_i16, n_0, n_31, n_add, n_sub, n_mul, n_neg, n_div, n_rem, n_le_t, n_le_f, n_lt_t, n_lt_f, n_eq_t, n_eq_f, n_cl, n_gd, n_gdt, n_nz, Int.reduceToNat, Int.reduceAdd, Int.reduceSub, Int.reduceMul, Int.reduceNeg, Int.reduceLT, Int.reduceLE, Int.reduceEq, Int.reduceDiv, Int.reduceMod, Nat.reduceAdd, Nat.reduceMul, ↓reduceIte, l_0, l_1, l_00, l_i, l_j, l_add, l_sub, l_mul, l_gt, l_ceq, l_clt, l_nz]
  · rw [← g2 rfl]
    simp (disch := omega) only [f_X9_answer_j136, n_l1, n_l2, n_l3, n_l4, n_l5, n_l6, n_l7, n_l8, n_l9, n_l10, n_l11, n_l12, n_l13, n_l14, n_l15, n_l16, n_l17, n_l18, n_l19, n_l20, n_l21, n_l22, n_l23, n_l24, n_l25, n_l26, n_l27, n_l28, n_l29, n_l30, n_l31, n_l32, n_l33, n_l34, n_l35, n_l36, n_l37, n_l38, n_l39, n_l40, n_l41, n_l42, n_l43, n_l44, n_l45, n_l46, n_l47, n_l48, n_l49, n_l50, n_l51, n_l52, n_l53, n_l54, n_l55, n_l56, n_l57, n_l58, n_l59, n_l60, n_i8, n_i16, n_0, n_31, n_add, n_sub, n_mul, n_neg, n_div, n_rem, n_le_t, n_le_f, n_lt_t, n_lt_f, n_eq_t, n_eq_f, n_cl, n_gd, n_gdt, n_nz, Int.reduceToNat, Int.reduceAdd, Int.reduceSub, Int.reduceMul, Int.reduceNeg, Int.reduceLT, Int.reduceLE, Int.reduceEq, Int.reduceDiv, Int.reduceMod, Nat.reduceAdd, Nat.reduceMul, ↓reduceIte, l_0, l_1, l_00, l_i, l_j, l_add, l_sub, l_mul, l_gt, l_ceq, l_clt, l_nz]
  · rw [← g3 rfl]
    simp (disch := omega) only [f_X9_answer_j136, n_l1, n_l2, n_l3, n_l4, n_l5, n_l6, n_l7, n_l8, n_l9, n_l10, n_l11, n_l12, n_l13, n_l14, n_l15, n_l16, n_l17, n_l18, n_l19, n_l20, n_l21, n_l22, n_l23, n_l24, n_l25, n_l26, n_l27, n_l28, n_l29, n_l30, n_l31, n_l32, n_l33, n_l34, n_l35, n_l36, n_l37, n_l38, n_l39, n_l40, n_l41, n_l42, n_l43, n_l44, n_l45, n_l46, n_l47, n_l48, n_l49, n_l50, n_l51, n_l52, n_l53, n_l54, n_l55, n_l56, n_l57, n_l58, n_l59, n_l60, n_i8, n_i16, n_0, n_31, n_add, n_sub, n_mul, n_neg, n_div, n_rem, n_le_t, n_le_f, n_lt_t, n_lt_f, n_eq_t, n_eq_f, n_cl, n_gd, n_gdt, n_nz, Int.reduceToNat, Int.reduceAdd, Int.reduceSub, Int.reduceMul, Int.reduceNeg, Int.reduceLT, Int.reduceLE, Int.reduceEq, Int.reduceDiv, Int.reduceMod, Nat.reduceAdd, Nat.reduceMul, ↓reduceIte, l_0, l_1, l_00, l_i, l_j, l_add, l_sub, l_mul, l_gt, l_ceq, l_clt, l_nz]
  · rw [← g4 rfl]
    simp (disch := omega) only [f_X9_answer_j136, n_l1, n_l2, n_l3, n_l4, n_l5, n_l6, n_l7, n_l8, n_l9, n_l10, n_l11, n_l12, n_l13, n_l14, n_l15, n_l16, n_l17, n_l18, n_l19, n_l20, n_l21, n_l22, n_l23, n_l24, n_l25, n_l26, n_l27, n_l28, n_l29, n_l30, n_l31, n_l32, n_l33, n_l34, n_l35, n_l36, n_l37, n_l38, n_l39, n_l40, n_l41, n_l42, n_l43, n_l44, n_l45, n_l46, n_l47, n_l48, n_l49, n_l50, n_l51, n_l52, n_l53, n_l54, n_l55, n_l56, n_l57, n_l58, n_l59, n_l60, n_i8, n_i16, n_0, n_31, n_add, n_sub, n_mul, n_neg, n_div, n_rem, n_le_t, n_le_f, n_lt_t, n_lt_f, n_eq_t, n_eq_f, n_cl, n_gd, n_gdt, n_nz, Int.reduceToNat, Int.reduceAdd, Int.reduceSub, Int.reduceMul, Int.reduceNeg, Int.reduceLT, Int.reduceLE, Int.reduceEq, Int.reduceDiv, Int.reduceMod, Nat.reduceAdd, Nat.reduceMul, ↓reduceIte, l_0, l_1, l_00, l_i, l_j, l_add, l_sub, l_mul, l_gt, l_ceq, l_clt, l_nz]
  · rw [← g5 rfl]
    simp (disch := omega) only [f_X9_answer_j136, n_l1, n_l2, n_l3, n_l4, n_l5, n_l6, n_l7, n_l8, n_l9, n_l10, n_l11, n_l12, n_l13, n_l14, n_l15, n_l16, n_l17, n_l18, n_l19, n_l20, n_l21, n_l22, n_l23, n_l24, n_l25, n_l26, n_l27, n_l28, n_l29, n_l30, n_l31, n_l32, n_l33, n_l34, n_l35, n_l36, n_l37, n_l38, n_l39, n_l40, n_l41, n_l42, n_l43, n_l44, n_l45, n_l46, n_l47, n_l48, n_l49, n_l50, n_l51, n_l52, n_l53, n_l54, n_l55, n_l56, n_l57, n_l58, n_l59, n_l60, n_i8, n_i16, n_0, n_31, n_add, n_sub, n_mul, n_neg, n_div, n_rem, n_le_t, n_le_f, n_lt_t, n_lt_f, n_eq_t, n_eq_f, n_cl, n_gd, n_gdt, n_nz, Int.reduceToNat, Int.reduceAdd, Int.reduceSub, Int.reduceMul, Int.reduceNeg, Int.reduceLT, Int.reduceLE, Int.reduceEq, Int.reduceDiv, Int.reduceMod, Nat.reduceAdd, Nat.reduceMul, ↓reduceIte, l_0, l_1, l_00, l_i, l_j, l_add, l_sub, l_mul, l_gt, l_ceq, l_clt, l_nz]
/-- what ask may change of the class -/
def ACf (s s' : ST) : Prop := (∀ o k : Nat, ¬ o = 3 → ¬ (34 ≤ o ∧ o ≤ 35) → ¬ (o = 5 ∧ k = 2) → ¬ (o = 1 ∧ k = 1) → ¬ (o = 0 ∧ (k = 13 ∨ k = 14)) → ¬ (42 ≤ o ∧ o ≤ 45) → s'.1 o k = s.1 o k) ∧ s'.2.1 = s.2.1 ∧ ∀ j : Nat, ¬ j = 4 → s'.2.2 j = s.2.2 j
theorem c_ask {T : Int → Int} {n : Int} {B : Brd} {G : Gam} {p : Nat} {s : ST} (h : CQ B G true p s) (hT : CT T n s) : ∃ v s', f_X9_ask s = some (v, s') ∧ s'.1 1 1 = Int32.ofInt 0 ∧ ACf s s' ∧ RQ (askS T n) (fun a => v = Int64.ofInt (qAn B G a.1 a.2) ∧ s'.1 0 13 = Int32.ofInt 0 ∧ s'.1 0 14 = Int32.ofInt (-1)) (fun k q => v = Int64.ofInt (-1000000000000000) ∧ s'.1 0 13 = Int32.ofInt k ∧ s'.1 0 14 = Int32.ofInt q) := by
  have hp := h.1.1.1.2.1.2
  have ht : f_X9_isTold s = some (Int32.ofInt 1, s) := c_isTold h
  obtain ⟨v, s1, q1, p1, r1⟩ := c_quest hT
  have f2 : ∀ o k : Nat, ¬ (o = 1 ∧ k = 1) → ¬ (o = 0 ∧ (k = 13 ∨ k = 14)) → (uI (uI (uI s1 1 1 (Int32.ofInt 0)) 0 13 (s1.1 3 5)) 0 14 (s1.1 3 6)).1 o k = s1.1 o k := fun o k x y => by (simp only [ua, ja, u_2, u_3, j_1, j_3]; (repeat' split) <;> first | rfl | (exfalso; omega))
  have hnf : f_X9_noteFault (uI s1 1 1 (Int32.ofInt 0)) = some (uI (uI (uI s1 1 1 (Int32.ofInt 0)) 0 13 (s1.1 3 5)) 0 14 (s1.1 3 6)) := by
    unfold f_X9_noteFault
    rw [ltd, u_no (show ¬ (3 : Nat) = 1 by omega), u_no (show ¬ (3 : Nat) = 0 by omega), u_no (show ¬ (3 : Nat) = 1 by omega)]
  have v13 : (uI (uI (uI s1 1 1 (Int32.ofInt 0)) 0 13 (s1.1 3 5)) 0 14 (s1.1 3 6)).1 0 13 = s1.1 3 5 := by rw [u_nk (by omega), u_eq]
  have v14 : (uI (uI (uI s1 1 1 (Int32.ofInt 0)) 0 13 (s1.1 3 5)) 0 14 (s1.1 3 6)).1 0 14 = s1.1 3 6 := u_eq _ _ _ _
  have v11 : (uI (uI (uI s1 1 1 (Int32.ofInt 0)) 0 13 (s1.1 3 5)) 0 14 (s1.1 3 6)).1 1 1 = Int32.ofInt 0 := by rw [u_no (by omega), u_no (by omega), u_eq]
  have l2 : (uI (uI (uI s1 1 1 (Int32.ofInt 0)) 0 13 (s1.1 3 5)) 0 14 (s1.1 3 6)).2 = s1.2 := rfl
  generalize hs2 : (uI (uI (uI s1 1 1 (Int32.ofInt 0)) 0 13 (s1.1 3 5)) 0 14 (s1.1 3 6)) = s2 at *
  have A2 : ACf s s2 := ⟨fun o k y1 y2 y3 y4 y5 y6 => (f2 o k y4 y5).trans (p1.1 o k y1 (by omega) (by omega) y3), by rw [l2]; exact p1.2.1, fun j hj => by rw [l2]; exact p1.2.2 j hj⟩
  cases eS : askS T n with
  | error x =>
    rw [eS] at r1
    have r1 : CD x.1 x.2 s1 := r1
    have hne' : (s2.1 0 13 = Int32.ofInt 0) = False := by
      refine eq_false ?_
      rw [v13, r1.1, n_eq (by have := r1.2.2.2; omega) (by have := r1.2.2.2; omega) (by omega) (by omega)]
      have := r1.2.2.2
      omega
    refine ⟨Int64.ofInt (-1000000000000000), s2, ?_, v11, A2, rfl, v13.trans r1.1, v14.trans r1.2.1⟩
    simp (disch := omega) only [f_X9_ask, ↓bb ht, ↓bb q1, ↓bb hnf, hne', n_i8, n_i16, n_0, n_31, n_add, n_sub, n_mul, n_neg, n_div, n_rem, n_le_t, n_le_f, n_lt_t, n_lt_f, n_eq_t, n_eq_f, n_cl, n_gd, n_gdt, n_nz, Int.reduceToNat, Int.reduceAdd, Int.reduceSub, Int.reduceMul, Int.reduceNeg, Int.reduceLT, Int.reduceLE, Int.reduceEq, Int.reduceDiv, Int.reduceMod, Nat.reduceAdd, Nat.reduceMul, ↓reduceIte, ltd]
  | ok a =>
    rw [eS] at r1
    obtain ⟨w1, ⟨w2, w3⟩, w4⟩ := (r1 : v = Int32.ofInt (a.1 + 33) ∧ (s1.1 34 1 = Int32.ofInt (a.2.length : Int) ∧ ∀ i : Nat, i < a.2.length → s1.1 35 i = Int32.ofInt (toC (a.2.getD i 0))) ∧ C0k s1)
    subst w1
    have h0 : s2.1 0 13 = Int32.ofInt 0 := v13.trans w4.1
    have hm1 : s2.1 0 14 = Int32.ofInt (-1) := v14.trans w4.2
    have hAV := ask_AV hT.2.1.1 hT.2.1.2 eS
    have hcl : ∀ o k : Nat, (p ≤ o ∧ o ≤ p + 13) ∨ (36 ≤ o ∧ o ≤ 41) → s2.1 o k = s.1 o k := fun o k y => A2.1 o k (by omega) (by omega) (by omega) (by omega) (by omega) (by omega)
    have hR : ∀ o k : Nat, ¬ slot o k = 4 → RR s2.2.2 o k = RR s.2.2 o k := fun o k x => by
      unfold RR
      rw [A2.2.2 _ x]
    have hGA : GA B G 36 p s2 := by
      obtain ⟨g4, g5, g6, g7, ⟨y1, y2, ⟨y3, y4⟩, y5, y6⟩⟩ := h.1.1.1
      exact ⟨g4, g5, (hR 36 0 (by decide)).trans g6, PB_fr g7 (fun o k a b => hcl o k (by omega)), ⟨fun m m0 m1 => (hcl _ _ (by omega)).trans (y1 m m0 m1), fun m m0 m1 => (hcl _ _ (by omega)).trans (y2 m m0 m1), ⟨(hcl _ _ (by omega)).trans y3, (hcl _ _ (by omega)).trans y4⟩, (hcl _ _ (by omega)).trans y5, (hcl _ _ (by omega)).trans y6⟩⟩
    have hCA : CAQ B G p a.2 s2 := ⟨hGA, (hcl _ _ (by omega)).trans h.1.2.1, (hR 0 3 (by decide)).trans h.2.1.1, (f2 34 1 (by omega) (by omega)).trans w2, fun i hi => (f2 35 i (by omega) (by omega)).trans (w3 i hi)⟩
    obtain ⟨s3, b1, b2⟩ := c_answer hAV hCA
    refine ⟨_, s3, ?_, ?_, ⟨fun o k y1 y2 y3 y4 y5 y6 => ?_, ?_, fun j hj => ?_⟩, rfl, ?_, ?_⟩
    · simp (disch := omega) only [f_X9_ask, ↓bb ht, ↓bb q1, ↓bb hnf, h0, ↓bb b1, n_i8, n_i16, n_0, n_31, n_add, n_sub, n_mul, n_neg, n_div, n_rem, n_le_t, n_le_f, n_lt_t, n_lt_f, n_eq_t, n_eq_f, n_cl, n_gd, n_gdt, n_nz, Int.reduceToNat, Int.reduceAdd, Int.reduceSub, Int.reduceMul, Int.reduceNeg, Int.reduceLT, Int.reduceLE, Int.reduceEq, Int.reduceDiv, Int.reduceMod, Nat.reduceAdd, Nat.reduceMul, ↓reduceIte, ltd]
    · rw [b2.1 1 1 (by omega)]; exact v11
    · rw [b2.1 o k (by omega)]; exact A2.1 o k y1 y2 y3 y4 y5 y6
    · rw [b2.2]; exact A2.2.1
    · rw [b2.2]; exact A2.2.2 j hj
    · rw [b2.1 0 13 (by omega)]; exact h0
    · rw [b2.1 0 14 (by omega)]; exact hm1
theorem CQ_h2 {B : Brd} {G : Gam} {brd : Bool} {p : Nat} {s s' : ST} (h : CQ B G brd p s) (hf : ∀ a k : Nat, (p ≤ a ∧ a ≤ p + 13) ∨ (36 ≤ a ∧ a ≤ 41) → s'.1 a k = s.1 a k) (h2 : ∀ j : Nat, ¬ j = 4 → s'.2.2 j = s.2.2 j) : CQ B G brd p s' := by
  obtain ⟨⟨⟨⟨g4, g5, g6, g7, ⟨y1, y2, ⟨y3, y4⟩, y5, y6⟩⟩, gS, gB⟩, h3, h4, h5⟩, ⟨h6, h7⟩, h8⟩ := h
  have hR : ∀ o k : Nat, ¬ slot o k = 4 → RR s'.2.2 o k = RR s.2.2 o k := fun o k x => by
    unfold RR
    rw [h2 _ x]
  exact ⟨⟨⟨⟨g4, g5, (hR 36 0 (by decide)).trans g6, PB_fr g7 (fun o k a b => hf o k (by omega)), ⟨fun m m0 m1 => (hf _ _ (by omega)).trans (y1 m m0 m1), fun m m0 m1 => (hf _ _ (by omega)).trans (y2 m m0 m1), ⟨(hf _ _ (by omega)).trans y3, (hf _ _ (by omega)).trans y4⟩, (hf _ _ (by omega)).trans y5, (hf _ _ (by omega)).trans y6⟩⟩, (hf _ _ (by omega)).trans gS, fun f f0 f1 => (hf _ _ (by omega)).trans (gB f f0 f1)⟩, (hf _ _ (by omega)).trans h3, ⟨(hf _ _ (by omega)).trans h4.1, (hf _ _ (by omega)).trans h4.2⟩, h5⟩, ⟨(hR 0 3 (by decide)).trans h6, (hR 46 0 (by decide)).trans h7⟩, h8⟩
theorem k_ask (i : Nat) : ok_ask Inv i := by
  rintro s ⟨B, G, brd, K, U, rn, rf, rv, x, T, n, L, N, p, hR, hC, hb, hp⟩
  obtain ⟨a, b, ⟨nw, c⟩, d, e, f, g, hNR, hWD⟩ := hR
  obtain ⟨cQ, cK, cU, cW, c12, cT, cWC, cN, c4⟩ := hC
  have hpp : p = 6 ∨ p = 20 := cQ.1.1.1.2.1.2
  have hBv := cQ.1.1.1.1.1
  have fin : ∀ s2 : ST, (∀ o k : Nat, 65 ≤ o → ¬ (o = 65 ∧ (k ≤ 10 ∨ k = 44 ∨ k = 59 ∨ (111 ≤ k ∧ k ≤ 119))) → ¬ o = 118 → ¬ o = 146 → ¬ o = 147 → s2.1 o k = s.1 o k) → (∀ o k : Nat, o < 65 → ¬ o = 3 → ¬ (34 ≤ o ∧ o ≤ 35) → ¬ (o = 5 ∧ k = 2) → ¬ (o = 1 ∧ k = 1) → ¬ (o = 0 ∧ (k = 13 ∨ k = 14)) → ¬ (42 ≤ o ∧ o ≤ 45) → s2.1 o k = s.1 o k) → (∀ o k : Nat, ¬ (o = 65 ∧ k = 118) → ¬ o = 148 → s2.2.1 o k = s.2.1 o k) → (∀ j : Nat, ¬ j = 4 → s2.2.2 j = s.2.2 j) → s2.1 65 1 = Int32.ofInt 0 → s2.1 1 1 = Int32.ofInt 0 → s2.1 0 13 = s2.1 65 7 → s2.1 0 14 = s2.1 65 8 → Inv (i + 1) s2 := by
    intro s2 hs2 hcl hlg hrf h651 h11 h13 h14
    refine ⟨B, G, brd, K, U, rn, rf, rv, x, T, 0, L, N, p, ⟨RS_up a (fun o k y => hs2 o k (by omega) (by omega) (by omega) (by omega) (by omega)), RK_fr b (fun k _ => hs2 112 k (by omega) (by omega) (by omega) (by omega) (by omega)), ⟨nw, RU_fr c (hs2 65 84 (by omega) (by omega) (by omega) (by omega) (by omega)) (hs2 65 85 (by omega) (by omega) (by omega) (by omega) (by omega)) (fun k => hs2 122 k (by omega) (by omega) (by omega) (by omega) (by omega))⟩, RW_fr2 d (hs2 65 80 (by omega) (by omega) (by omega) (by omega) (by omega)) (fun k => hs2 120 k (by omega) (by omega) (by omega) (by omega) (by omega)), SE_2 e (hlg 65 86 (by omega) (by omega)), ⟨h651, by omega, fun j j0 j1 => by omega⟩, WR_fr2 g (hs2 65 121 (by omega) (by omega) (by omega) (by omega) (by omega)) (fun k => hs2 149 k (by omega) (by omega) (by omega) (by omega) (by omega)), fun k w k0 k1 w0 w1 => ⟨(hlg _ _ (by omega) (by omega)).trans (hNR k w k0 k1 w0 w1).1, (hNR k w k0 k1 w0 w1).2⟩, WDS_fr hWD (fun o k ho => hs2 o k (by omega) (by omega) (by omega) (by omega) (by omega))⟩, ⟨CQ_h2 cQ (fun o k y => hcl o k (by omega) (by omega) (by omega) (by omega) (by omega) (by omega) (by omega)) hrf, CK_fr cK (hcl 56 1 (by omega) (by omega) (by omega) (by omega) (by omega) (by omega) (by omega)) (fun k => hcl 57 k (by omega) (by omega) (by omega) (by omega) (by omega) (by omega) (by omega)), ⟨(hcl 56 3 (by omega) (by omega) (by omega) (by omega) (by omega) (by omega) (by omega)).trans cU.1, cU.2.1, CUl_fr hBv cU.2.2 (fun k _ => hcl 58 k (by omega) (by omega) (by omega) (by omega) (by omega) (by omega) (by omega))⟩, CW_fr cW (hcl 0 11 (by omega) (by omega) (by omega) (by omega) (by omega) (by omega) (by omega)) (fun k => ⟨hcl 59 k (by omega) (by omega) (by omega) (by omega) (by omega) (by omega) (by omega), hcl 60 k (by omega) (by omega) (by omega) (by omega) (by omega) (by omega) (by omega)⟩), (hcl 0 12 (by omega) (by omega) (by omega) (by omega) (by omega) (by omega) (by omega)).trans c12, ⟨h11, by omega, fun j j0 j1 => by omega⟩, WC_fr cWC (hcl 0 17 (by omega) (by omega) (by omega) (by omega) (by omega) (by omega) (by omega)) (fun k => hcl 62 k (by omega) (by omega) (by omega) (by omega) (by omega) (by omega) (by omega)), NC_fr cN (fun k => hcl (p + 11) k (by omega) (by omega) (by omega) (by omega) (by omega) (by omega) (by omega)), ?_⟩, ⟨h13, h14, fun j hj => ?_⟩, hp⟩
    · rw [← c4]
      show s2.2.2 1 = s.2.2 1
      exact hrf 1 (by omega)
    · rw [hcl 61 j (by omega) (by omega) (by omega) (by omega) (by omega) (by omega) (by omega), hs2 67 j (by omega) (by omega) (by omega) (by omega) (by omega)]
      exact hb.2.2 j hj
  cases brd with
  | false =>
    have h58 : s.1 65 58 = Int32.ofInt 0 := a.2.1
    have ht : f_X9_isTold s = some (Int32.ofInt 0, s) := c_isTold cQ
    have f1 : ∀ o k : Nat, ¬ (o = 1 ∧ k = 1) → (uI s 1 1 (Int32.ofInt 0)).1 o k = s.1 o k := fun o k y => by (simp only [ua, ja, u_2, u_3, j_1, j_3]; (repeat' split) <;> first | rfl | (exfalso; omega))
    have f2 : ∀ o k : Nat, ¬ (o = 65 ∧ k = 1) → (uI (uI s 1 1 (Int32.ofInt 0)) 65 1 (Int32.ofInt 0)).1 o k = (uI s 1 1 (Int32.ofInt 0)).1 o k := fun o k y => by (simp only [ua, ja, u_2, u_3, j_1, j_3]; (repeat' split) <;> first | rfl | (exfalso; omega))
    refine ⟨Int64.ofInt (-1000000000000000), uI s 1 1 (Int32.ofInt 0), uI (uI s 1 1 (Int32.ofInt 0)) 65 1 (Int32.ofInt 0), ?_, m_ask0 ((f1 65 58 (by omega)).trans h58), ?_⟩
    · simp (disch := omega) only [f_X9_ask, ↓bb ht, n_i8, n_i16, n_0, n_31, n_add, n_sub, n_mul, n_neg, n_div, n_rem, n_le_t, n_le_f, n_lt_t, n_lt_f, n_eq_t, n_eq_f, n_cl, n_gd, n_gdt, n_nz, Int.reduceToNat, Int.reduceAdd, Int.reduceSub, Int.reduceMul, Int.reduceNeg, Int.reduceLT, Int.reduceLE, Int.reduceEq, Int.reduceDiv, Int.reduceMod, Nat.reduceAdd, Nat.reduceMul, ↓reduceIte, ltd]
    · refine fin _ (fun o k y1 y2 y3 y4 y5 => (f2 o k (by omega)).trans (f1 o k (by omega))) (fun o k y1 y2 y3 y4 y5 y6 y7 => (f2 o k (by omega)).trans (f1 o k y5)) (fun _ _ _ _ => rfl) (fun _ _ => rfl) (u_eq _ _ _ _) ?_ ?_ ?_
      · rw [f2 1 1 (by omega), u_eq]
      · rw [f2 0 13 (by omega), f1 0 13 (by omega), f2 65 7 (by omega), f1 65 7 (by omega)]; exact hb.1
      · rw [f2 0 14 (by omega), f1 0 14 (by omega), f2 65 8 (by omega), f1 65 8 (by omega)]; exact hb.2.1
  | true =>
    obtain ⟨v, s1, q1, q2, q3, q4⟩ := c_ask cQ cT
    have hi65 : ∀ o k : Nat, 65 ≤ o → s1.1 o k = s.1 o k := fun o k y => q3.1 o k (by omega) (by omega) (by omega) (by omega) (by omega) (by omega)
    obtain ⟨v', s2, r1, r2, r3, r4⟩ := m_ask (s := s1) (MA_fr a.1.1 (fun o k y => hi65 o k (by omega))) ((hi65 65 58 (by omega)).trans a.2.1) (TP_fr f (hi65 65 1 (by omega)) (fun k => hi65 66 k (by omega))) (WDS_fr hWD (fun o k ho => hi65 o k (by omega)))
    have hlow : ∀ o k : Nat, o < 65 → s2.1 o k = s1.1 o k := fun o k y => r3.1 o k (by omega) (by omega) (by omega) (by omega)
    have key : s2.1 0 13 = s2.1 65 7 → s2.1 0 14 = s2.1 65 8 → Inv (i + 1) s2 := fun z1 z2 => fin s2 (fun o k y1 y2 y3 y4 y5 => (r3.1 o k y2 y3 y4 y5).trans (hi65 o k y1)) (fun o k y1 y2 y3 y4 y5 y6 y7 => (hlow o k y1).trans (q3.1 o k y2 y3 y4 y5 y6 y7)) (fun o k y1 y2 => (r3.2.1 o k y1 y2).trans (by rw [q3.2.1])) (fun j hj => by rw [r3.2.2]; exact q3.2.2 j hj) r2 ((hlow 1 1 (by omega)).trans q2) z1 z2
    cases eS : askS T n with
    | error z =>
      rw [eS] at q4 r4
      obtain ⟨w1, w2, w3⟩ := q4
      obtain ⟨u1, u2, u3⟩ := r4
      subst w1
      subst u1
      exact ⟨_, s1, s2, q1, r1, key (by rw [hlow 0 13 (by omega), w2, u2]) (by rw [hlow 0 14 (by omega), w3, u3])⟩
    | ok z =>
      rw [eS] at q4 r4
      obtain ⟨w1, w2, w3⟩ := q4
      obtain ⟨u1, u2, u3⟩ := r4
      subst w1
      subst u1
      exact ⟨_, s1, s2, q1, r1, key (by rw [hlow 0 13 (by omega), w2, u2]) (by rw [hlow 0 14 (by omega), w3, u3])⟩
