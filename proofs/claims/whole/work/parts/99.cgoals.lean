/-! L3: where a man can go, as the class finds it -/
def dxW (w : Int) : Int := ([1, -1, 0, 0, 1, 1, -1, -1, 1, 1, -1, -1, 2, 2, -2, -2] : List Int).getD w.toNat 0
def dyW (w : Int) : Int := ([0, 0, 1, -1, 1, -1, 1, -1, 2, -2, 2, -2, 1, -1, 1, -1] : List Int).getD w.toNat 0
def wF (k : Int) : Int := ([0, 0, 4, 0, 8] : List Int).getD k.toNat 0
def wL (k : Int) : Int := ([0, 4, 8, 8, 16] : List Int).getD k.toNat 0
theorem sv_0 : ∀ n : Nat, n < 16 → (sm_sv 0).getD n (Int32.ofInt 0) = Int32.ofInt (dxW (n : Int)) := by decide +kernel
theorem sv_1 : ∀ n : Nat, n < 16 → (sm_sv 1).getD n (Int32.ofInt 0) = Int32.ofInt (dyW (n : Int)) := by decide +kernel
theorem sv_2 : ∀ n : Nat, n < 5 → (sm_sv 2).getD n (Int32.ofInt 0) = Int32.ofInt (wF (n : Int)) := by decide +kernel
theorem sv_3 : ∀ n : Nat, n < 5 → (sm_sv 3).getD n (Int32.ofInt 0) = Int32.ofInt (wL (n : Int)) := by decide +kernel
theorem dxy_b : ∀ n : Nat, n < 16 → (-2 ≤ dxW (n : Int) ∧ dxW (n : Int) ≤ 2) ∧ (-2 ≤ dyW (n : Int) ∧ dyW (n : Int) ≤ 2) := by decide +kernel
theorem w_b : ∀ n : Nat, n < 5 → (0 ≤ wF (n : Int) ∧ wF (n : Int) ≤ wL (n : Int)) ∧ wL (n : Int) ≤ 16 := by decide +kernel
theorem and_q (f : Int → Bool) {q : Int} (q0 : 0 ≤ q) (q1 : q < 25) : (bmk f &&& bmk (fun j => decide (j = q)) = Int32.ofInt 0) = (f q = false) := by
  rw [bmk_and]
  apply propext
  rw [bmk_0]
  constructor
  · intro h
    have := h q q0 q1
    rw [decide_eq_true rfl, Bool.and_true] at this
    exact this
  · intro h r _ _
    by_cases e : r = q
    · rw [e, h, Bool.false_and]
    · rw [decide_eq_false e, Bool.and_false]
def onBd (B : Brd) (x y : Int) : Bool := decide ((0 ≤ x ∧ x < bW B) ∧ (0 ≤ y ∧ y < bH B))
/-- places along a way -/
def alS (B : Brd) (G : Gam) (t dx dy : Int) : Nat → Int → Int → Int → Bool
  | 0, _, _, _ => false
  | n + 1, x, y, q => onBd B (x + dx) (y + dy) && (!occ B G t (5 * (y + dy) + (x + dx)) && (decide (q = 5 * (y + dy) + (x + dx)) || (!occ B G (1 - t) (5 * (y + dy) + (x + dx)) && alS B G t dx dy n (x + dx) (y + dy) q)))
theorem c_along_L {B : Brd} {G : Gam} {o p : Nat} {s : ST} (h : GA B G o p s) {t w N : Int} (w0 : 0 ≤ w) (w1 : w < 16) (N1 : N ≤ 4) : ∀ (n F : Nat) (i x y : Int) (g : Int → Bool), 0 ≤ i → (n : Int) = N - i → n < F → -10 ≤ x → x ≤ 10 → -10 ≤ y → y ≤ 10 → f_X3_along_L36 F o (Int32.ofInt w) (Int32.ofInt N) (bmk (occ B G t)) (bmk (occ B G (1 - t))) (Int32.ofInt x) (Int32.ofInt y) (bmk g) (Int32.ofInt i) s = some (bmk (fun q => g q || alS B G t (dxW w) (dyW w) n x y q), s) := by
  obtain ⟨⟨hB, hG⟩, ⟨ho, hp⟩, hP, ⟨hn, -⟩, -⟩ := h
  have hW : bW B ≤ 5 := hB.1.1.2.1
  have hH : bH B ≤ 5 := hB.1.1.2.2.2.1
  have hW0 : 0 ≤ bW B := hB.1.1.1
  have hH0 : 0 ≤ bH B := hB.1.1.2.2.1
  have c0 : s.1 p 0 = Int32.ofInt (bW B) := hn.1
  have c1 : s.1 p 1 = Int32.ofInt (bH B) := hn.2.1
  have hdx := sv_0 w.toNat (by omega)
  have hdy := sv_1 w.toNat (by omega)
  have hdb := dxy_b w.toNat (by omega)
  rw [show ((w.toNat : Nat) : Int) = w by omega] at hdx hdy hdb
  generalize dxW w = dx at *
  generalize dyW w = dy at *
  intro n
  induction n with
  | zero =>
    intro F i x y g h0 hn hF x0 x1 y0 y1
    obtain ⟨F, rfl⟩ : ∃ F', F = F' + 1 := ⟨F - 1, by omega⟩
    have hg : bmk (fun q => g q || alS B G t dx dy 0 x y q) = bmk g := bmk_congr (fun q _ _ => by show (g q || false) = g q; rw [Bool.or_false])
    rw [hg]
    simp (disch := omega) only [f_X3_along_L36, n_i8, n_i16, n_0, n_31, n_add, n_sub, n_mul, n_neg, n_div, n_rem, n_le_t, n_le_f, n_lt_t, n_lt_f, n_eq_t, n_eq_f, n_cl, n_gd, n_gdt, n_nz, Int.reduceToNat, Int.reduceAdd, Int.reduceSub, Int.reduceMul, Int.reduceNeg, Int.reduceLT, Int.reduceLE, Int.reduceEq, Int.reduceDiv, Int.reduceMod, Nat.reduceAdd, Nat.reduceMul, ↓reduceIte]
  | succ n ih =>
    intro F i x y g h0 hn hF x0 x1 y0 y1
    obtain ⟨F, rfl⟩ : ∃ F', F = F' + 1 := ⟨F - 1, by omega⟩
    have hal : ∀ q, alS B G t dx dy (n + 1) x y q = (onBd B (x + dx) (y + dy) && (!occ B G t (5 * (y + dy) + (x + dx)) && (decide (q = 5 * (y + dy) + (x + dx)) || (!occ B G (1 - t) (5 * (y + dy) + (x + dx)) && alS B G t dx dy n (x + dx) (y + dy) q)))) := fun q => rfl
    have off : onBd B (x + dx) (y + dy) = false → bmk (fun q => g q || alS B G t dx dy (n + 1) x y q) = bmk g := fun e => bmk_congr (fun q _ _ => by rw [hal, e, Bool.false_and, Bool.or_false])
    by_cases e1 : x + dx < 0
    · rw [off (decide_eq_false (by omega))]
      simp (disch := omega) only [f_X3_along_L36, hdx, hdy, n_i8, n_i16, n_0, n_31, n_add, n_sub, n_mul, n_neg, n_div, n_rem, n_le_t, n_le_f, n_lt_t, n_lt_f, n_eq_t, n_eq_f, n_cl, n_gd, n_gdt, n_nz, Int.reduceToNat, Int.reduceAdd, Int.reduceSub, Int.reduceMul, Int.reduceNeg, Int.reduceLT, Int.reduceLE, Int.reduceEq, Int.reduceDiv, Int.reduceMod, Nat.reduceAdd, Nat.reduceMul, ↓reduceIte]
    by_cases e2 : bW B ≤ x + dx
    · rw [off (decide_eq_false (by omega))]
      simp (disch := omega) only [f_X3_along_L36, hdx, hdy, hP, c0, g_kk, g_k1, g_n1, g_k2, g_n2, g_k3, g_n3, g_k4, g_n4, g_k5, g_n5, g_k7, g_n7, g_k8, g_n8, g_k9, g_n9, g_k6, g_r3, g_r4, g_r5, g_r6, g_r7, g_r10, g_q0, g_q1, g_q2, p_kk, p_k1, p_n1, p_k2, p_n2, p_k3, p_n3, p_k4, p_n4, p_k5, p_n5, p_k6, p_n6, p_k7, p_n7, p_k8, p_n8, p_k9, p_n9, p_k10, p_n10, p_k11, p_n11, p_k13, p_n13, p_k12, p_r2, p_r4, p_r5, p_r6, p_r7, p_r9, p_r10, p_r11, p_r13, p_r14, p_r15, p_r16, p_h0, n_i8, n_i16, n_0, n_31, n_add, n_sub, n_mul, n_neg, n_div, n_rem, n_le_t, n_le_f, n_lt_t, n_lt_f, n_eq_t, n_eq_f, n_cl, n_gd, n_gdt, n_nz, Int.reduceToNat, Int.reduceAdd, Int.reduceSub, Int.reduceMul, Int.reduceNeg, Int.reduceLT, Int.reduceLE, Int.reduceEq, Int.reduceDiv, Int.reduceMod, Nat.reduceAdd, Nat.reduceMul, ↓reduceIte, u_eq, u_no, u_nk, u_ek, u_2, u_3, j_1, j_3, j_eq, j_no, j_nk, ltd, bnd]
    by_cases e3 : y + dy < 0
    · rw [off (decide_eq_false (by omega))]
      simp (disch := omega) only [f_X3_along_L36, hdx, hdy, hP, c0, g_kk, g_k1, g_n1, g_k2, g_n2, g_k3, g_n3, g_k4, g_n4, g_k5, g_n5, g_k7, g_n7, g_k8, g_n8, g_k9, g_n9, g_k6, g_r3, g_r4, g_r5, g_r6, g_r7, g_r10, g_q0, g_q1, g_q2, p_kk, p_k1, p_n1, p_k2, p_n2, p_k3, p_n3, p_k4, p_n4, p_k5, p_n5, p_k6, p_n6, p_k7, p_n7, p_k8, p_n8, p_k9, p_n9, p_k10, p_n10, p_k11, p_n11, p_k13, p_n13, p_k12, p_r2, p_r4, p_r5, p_r6, p_r7, p_r9, p_r10, p_r11, p_r13, p_r14, p_r15, p_r16, p_h0, n_i8, n_i16, n_0, n_31, n_add, n_sub, n_mul, n_neg, n_div, n_rem, n_le_t, n_le_f, n_lt_t, n_lt_f, n_eq_t, n_eq_f, n_cl, n_gd, n_gdt, n_nz, Int.reduceToNat, Int.reduceAdd, Int.reduceSub, Int.reduceMul, Int.reduceNeg, Int.reduceLT, Int.reduceLE, Int.reduceEq, Int.reduceDiv, Int.reduceMod, Nat.reduceAdd, Nat.reduceMul, ↓reduceIte, u_eq, u_no, u_nk, u_ek, u_2, u_3, j_1, j_3, j_eq, j_no, j_nk, ltd, bnd]
    by_cases e4 : bH B ≤ y + dy
    · rw [off (decide_eq_false (by omega))]
      simp (disch := omega) only [f_X3_along_L36, hdx, hdy, hP, c0, c1, g_kk, g_k1, g_n1, g_k2, g_n2, g_k3, g_n3, g_k4, g_n4, g_k5, g_n5, g_k7, g_n7, g_k8, g_n8, g_k9, g_n9, g_k6, g_r3, g_r4, g_r5, g_r6, g_r7, g_r10, g_q0, g_q1, g_q2, p_kk, p_k1, p_n1, p_k2, p_n2, p_k3, p_n3, p_k4, p_n4, p_k5, p_n5, p_k6, p_n6, p_k7, p_n7, p_k8, p_n8, p_k9, p_n9, p_k10, p_n10, p_k11, p_n11, p_k13, p_n13, p_k12, p_r2, p_r4, p_r5, p_r6, p_r7, p_r9, p_r10, p_r11, p_r13, p_r14, p_r15, p_r16, p_h0, n_i8, n_i16, n_0, n_31, n_add, n_sub, n_mul, n_neg, n_div, n_rem, n_le_t, n_le_f, n_lt_t, n_lt_f, n_eq_t, n_eq_f, n_cl, n_gd, n_gdt, n_nz, Int.reduceToNat, Int.reduceAdd, Int.reduceSub, Int.reduceMul, Int.reduceNeg, Int.reduceLT, Int.reduceLE, Int.reduceEq, Int.reduceDiv, Int.reduceMod, Nat.reduceAdd, Nat.reduceMul, ↓reduceIte, u_eq, u_no, u_nk, u_ek, u_2, u_3, j_1, j_3, j_eq, j_no, j_nk, ltd, bnd]
    have hon : onBd B (x + dx) (y + dy) = true := decide_eq_true (by omega)
    have hmm : (y + dy) * 5 + (x + dx) = 5 * (y + dy) + (x + dx) := by omega
    have hq0 : 0 ≤ 5 * (y + dy) + (x + dx) := by omega
    have hq1 : 5 * (y + dy) + (x + dx) < 25 := by omega
    have hsh := shl_q hq0 hq1
    have ho1 := and_q (occ B G t) hq0 hq1
    have ho2 := and_q (occ B G (1 - t)) hq0 hq1
    cases k1 : occ B G t (5 * (y + dy) + (x + dx)) with
    | true =>
      rw [k1] at ho1
      have hg : bmk (fun q => g q || alS B G t dx dy (n + 1) x y q) = bmk g := bmk_congr (fun q _ _ => by rw [hal, k1, Bool.not_true, Bool.false_and, Bool.and_false, Bool.or_false])
      rw [hg]
      simp (disch := omega) only [f_X3_along_L36, hdx, hdy, hP, c0, c1, hmm, hsh, ho1, Bool.true_eq_false, g_kk, g_k1, g_n1, g_k2, g_n2, g_k3, g_n3, g_k4, g_n4, g_k5, g_n5, g_k7, g_n7, g_k8, g_n8, g_k9, g_n9, g_k6, g_r3, g_r4, g_r5, g_r6, g_r7, g_r10, g_q0, g_q1, g_q2, p_kk, p_k1, p_n1, p_k2, p_n2, p_k3, p_n3, p_k4, p_n4, p_k5, p_n5, p_k6, p_n6, p_k7, p_n7, p_k8, p_n8, p_k9, p_n9, p_k10, p_n10, p_k11, p_n11, p_k13, p_n13, p_k12, p_r2, p_r4, p_r5, p_r6, p_r7, p_r9, p_r10, p_r11, p_r13, p_r14, p_r15, p_r16, p_h0, n_i8, n_i16, n_0, n_31, n_add, n_sub, n_mul, n_neg, n_div, n_rem, n_le_t, n_le_f, n_lt_t, n_lt_f, n_eq_t, n_eq_f, n_cl, n_gd, n_gdt, n_nz, Int.reduceToNat, Int.reduceAdd, Int.reduceSub, Int.reduceMul, Int.reduceNeg, Int.reduceLT, Int.reduceLE, Int.reduceEq, Int.reduceDiv, Int.reduceMod, Nat.reduceAdd, Nat.reduceMul, ↓reduceIte, u_eq, u_no, u_nk, u_ek, u_2, u_3, j_1, j_3, j_eq, j_no, j_nk, ltd, bnd]
    | false =>
      rw [k1] at ho1
      cases k2 : occ B G (1 - t) (5 * (y + dy) + (x + dx)) with
      | true =>
        rw [k2] at ho2
        have hg : bmk (fun q => g q || alS B G t dx dy (n + 1) x y q) = bmk g ||| bmk (fun j => decide (j = 5 * (y + dy) + (x + dx))) := by
          rw [bmk_or]
          exact bmk_congr (fun q _ _ => by rw [hal, hon, k1, k2, Bool.not_true, Bool.false_and, Bool.or_false, Bool.not_false, Bool.true_and, Bool.true_and])
        rw [hg]
        simp (disch := omega) only [f_X3_along_L36, hdx, hdy, hP, c0, c1, hmm, hsh, ho1, ho2, Bool.true_eq_false, g_kk, g_k1, g_n1, g_k2, g_n2, g_k3, g_n3, g_k4, g_n4, g_k5, g_n5, g_k7, g_n7, g_k8, g_n8, g_k9, g_n9, g_k6, g_r3, g_r4, g_r5, g_r6, g_r7, g_r10, g_q0, g_q1, g_q2, p_kk, p_k1, p_n1, p_k2, p_n2, p_k3, p_n3, p_k4, p_n4, p_k5, p_n5, p_k6, p_n6, p_k7, p_n7, p_k8, p_n8, p_k9, p_n9, p_k10, p_n10, p_k11, p_n11, p_k13, p_n13, p_k12, p_r2, p_r4, p_r5, p_r6, p_r7, p_r9, p_r10, p_r11, p_r13, p_r14, p_r15, p_r16, p_h0, n_i8, n_i16, n_0, n_31, n_add, n_sub, n_mul, n_neg, n_div, n_rem, n_le_t, n_le_f, n_lt_t, n_lt_f, n_eq_t, n_eq_f, n_cl, n_gd, n_gdt, n_nz, Int.reduceToNat, Int.reduceAdd, Int.reduceSub, Int.reduceMul, Int.reduceNeg, Int.reduceLT, Int.reduceLE, Int.reduceEq, Int.reduceDiv, Int.reduceMod, Nat.reduceAdd, Nat.reduceMul, ↓reduceIte, u_eq, u_no, u_nk, u_ek, u_2, u_3, j_1, j_3, j_eq, j_no, j_nk, ltd, bnd]
      | false =>
        rw [k2] at ho2
        have ih := ih F (i + 1) (x + dx) (y + dy) (fun q => g q || decide (q = 5 * (y + dy) + (x + dx))) (by omega) (by omega) (by omega) (by omega) (by omega) (by omega) (by omega)
        have hg : bmk (fun q => g q || alS B G t dx dy (n + 1) x y q) = bmk (fun q => (g q || decide (q = 5 * (y + dy) + (x + dx))) || alS B G t dx dy n (x + dx) (y + dy) q) := bmk_congr (fun q _ _ => by
          rw [hal, hon, k1, k2, Bool.not_false, Bool.true_and, Bool.true_and, Bool.true_and, Bool.or_assoc])
        have hor : bmk g ||| bmk (fun j => decide (j = 5 * (y + dy) + (x + dx))) = bmk (fun q => g q || decide (q = 5 * (y + dy) + (x + dx))) := bmk_or _ _
        rw [hg, ← ih]
        rw [f_X3_along_L36]
        simp (disch := omega) only [hdx, hdy, hP, c0, c1, hmm, hsh, ho1, ho2, hor, g_kk, g_k1, g_n1, g_k2, g_n2, g_k3, g_n3, g_k4, g_n4, g_k5, g_n5, g_k7, g_n7, g_k8, g_n8, g_k9, g_n9, g_k6, g_r3, g_r4, g_r5, g_r6, g_r7, g_r10, g_q0, g_q1, g_q2, p_kk, p_k1, p_n1, p_k2, p_n2, p_k3, p_n3, p_k4, p_n4, p_k5, p_n5, p_k6, p_n6, p_k7, p_n7, p_k8, p_n8, p_k9, p_n9, p_k10, p_n10, p_k11, p_n11, p_k13, p_n13, p_k12, p_r2, p_r4, p_r5, p_r6, p_r7, p_r9, p_r10, p_r11, p_r13, p_r14, p_r15, p_r16, p_h0, n_i8, n_i16, n_0, n_31, n_add, n_sub, n_mul, n_neg, n_div, n_rem, n_le_t, n_le_f, n_lt_t, n_lt_f, n_eq_t, n_eq_f, n_cl, n_gd, n_gdt, n_nz, Int.reduceToNat, Int.reduceAdd, Int.reduceSub, Int.reduceMul, Int.reduceNeg, Int.reduceLT, Int.reduceLE, Int.reduceEq, Int.reduceDiv, Int.reduceMod, Nat.reduceAdd, Nat.reduceMul, ↓reduceIte, u_eq, u_no, u_nk, u_ek, u_2, u_3, j_1, j_3, j_eq, j_no, j_nk, ltd, bnd]
theorem c_along {B : Brd} {G : Gam} {o p : Nat} {s : ST} (h : GA B G o p s) {q w N t : Int} (q0 : 0 ≤ q) (q1 : q < 25) (w0 : 0 ≤ w) (w1 : w < 16) (N0 : 0 ≤ N) (N1 : N ≤ 4) (t0 : 0 ≤ t) (t1 : t ≤ 1) : f_X3_along o (Int32.ofInt q) (Int32.ofInt w) (Int32.ofInt N) (Int32.ofInt t) s = some (bmk (alS B G t (dxW w) (dyW w) N.toNat (q % 5) (q / 5)), s) := by
  have hL := c_along_L h (t := t) w0 w1 N1 N.toNat fuel 0 (q % 5) (q / 5) (fun _ => false) (by omega) (by omega) (by unfold fuel; omega) (by omega) (by omega) (by omega) (by omega)
  obtain ⟨⟨hB, hG⟩, ⟨ho, hp⟩, hP, -, -, -, ⟨d0, d1⟩, -, -⟩ := h
  have hR : q - q / 5 * 5 = q % 5 := n_rem _ _
  have hg : bmk (fun r => false || alS B G t (dxW w) (dyW w) N.toNat (q % 5) (q / 5) r) = bmk (alS B G t (dxW w) (dyW w) N.toNat (q % 5) (q / 5)) := bmk_congr (fun r _ _ => by rw [Bool.false_or])
  rw [hg, bmk_no] at hL
  have ht : t = 0 ∨ t = 1 := by omega
  rcases ht with rfl | rfl
  · have hL : f_X3_along_L36 fuel o (Int32.ofInt w) (Int32.ofInt N) (bmk (occ B G 0)) (bmk (occ B G 1)) (Int32.ofInt (q % 5)) (Int32.ofInt (q / 5)) (Int32.ofInt 0) (Int32.ofInt 0) s = _ := hL
    simp (disch := omega) only [f_X3_along, d0, d1, hR, hL, g_kk, g_k1, g_n1, g_k2, g_n2, g_k3, g_n3, g_k4, g_n4, g_k5, g_n5, g_k7, g_n7, g_k8, g_n8, g_k9, g_n9, g_k6, g_r3, g_r4, g_r5, g_r6, g_r7, g_r10, g_q0, g_q1, g_q2, p_kk, p_k1, p_n1, p_k2, p_n2, p_k3, p_n3, p_k4, p_n4, p_k5, p_n5, p_k6, p_n6, p_k7, p_n7, p_k8, p_n8, p_k9, p_n9, p_k10, p_n10, p_k11, p_n11, p_k13, p_n13, p_k12, p_r2, p_r4, p_r5, p_r6, p_r7, p_r9, p_r10, p_r11, p_r13, p_r14, p_r15, p_r16, p_h0, n_i8, n_i16, n_0, n_31, n_add, n_sub, n_mul, n_neg, n_div, n_rem, n_le_t, n_le_f, n_lt_t, n_lt_f, n_eq_t, n_eq_f, n_cl, n_gd, n_gdt, n_nz, Int.reduceToNat, Int.reduceAdd, Int.reduceSub, Int.reduceMul, Int.reduceNeg, Int.reduceLT, Int.reduceLE, Int.reduceEq, Int.reduceDiv, Int.reduceMod, Nat.reduceAdd, Nat.reduceMul, ↓reduceIte, u_eq, u_no, u_nk, u_ek, u_2, u_3, j_1, j_3, j_eq, j_no, j_nk, ltd, bnd, Int.toNat_zero, Int.toNat_one]
  · have hL : f_X3_along_L36 fuel o (Int32.ofInt w) (Int32.ofInt N) (bmk (occ B G 1)) (bmk (occ B G 0)) (Int32.ofInt (q % 5)) (Int32.ofInt (q / 5)) (Int32.ofInt 0) (Int32.ofInt 0) s = _ := hL
    simp (disch := omega) only [f_X3_along, d0, d1, hR, hL, g_kk, g_k1, g_n1, g_k2, g_n2, g_k3, g_n3, g_k4, g_n4, g_k5, g_n5, g_k7, g_n7, g_k8, g_n8, g_k9, g_n9, g_k6, g_r3, g_r4, g_r5, g_r6, g_r7, g_r10, g_q0, g_q1, g_q2, p_kk, p_k1, p_n1, p_k2, p_n2, p_k3, p_n3, p_k4, p_n4, p_k5, p_n5, p_k6, p_n6, p_k7, p_n7, p_k8, p_n8, p_k9, p_n9, p_k10, p_n10, p_k11, p_n11, p_k13, p_n13, p_k12, p_r2, p_r4, p_r5, p_r6, p_r7, p_r9, p_r10, p_r11, p_r13, p_r14, p_r15, p_r16, p_h0, n_i8, n_i16, n_0, n_31, n_add, n_sub, n_mul, n_neg, n_div, n_rem, n_le_t, n_le_f, n_lt_t, n_lt_f, n_eq_t, n_eq_f, n_cl, n_gd, n_gdt, n_nz, Int.reduceToNat, Int.reduceAdd, Int.reduceSub, Int.reduceMul, Int.reduceNeg, Int.reduceLT, Int.reduceLE, Int.reduceEq, Int.reduceDiv, Int.reduceMod, Nat.reduceAdd, Nat.reduceMul, ↓reduceIte, u_eq, u_no, u_nk, u_ek, u_2, u_3, j_1, j_3, j_eq, j_no, j_nk, ltd, bnd, Int.toNat_zero, Int.toNat_one]
def rchC (B : Brd) (k : Int) : Int := if wy B k = 4 then 1 else rch B k
/-- all ways of a man -/
def gWs (B : Brd) (G : Gam) (m : Int) (l : List Int) (q : Int) : Bool := l.any (fun w => alS B G (sd B m) (dxW w) (dyW w) (rchC B (kd B m)).toNat (pl G m % 5) (pl G m / 5) q)
theorem c_goals_L {B : Brd} {G : Gam} {o p : Nat} {s : ST} (h : GA B G o p s) {m : Int} (m0 : 0 ≤ m) (m1 : m < bM B) (hx : ¬ gx G m = -1) : ∀ (n F : Nat) (i : Int) (g : Int → Bool), 0 ≤ i → (n : Int) = wL (wy B (kd B m)) - i → n < F → f_X3_goals_L66 F o (Int32.ofInt m) (Int32.ofInt (pl G m)) (Int32.ofInt (wy B (kd B m))) (Int32.ofInt (rchC B (kd B m))) (bmk g) (Int32.ofInt i) s = some (bmk (fun q => g q || gWs B G m (upto n i) q), s) := by
  have h0 := h
  obtain ⟨⟨hB, hG⟩, ⟨ho, hp⟩, hP, ⟨hn, -, hm, -⟩, -⟩ := h0
  have hM : bM B ≤ 8 := hB.1.1.2.2.2.2.2.2.2.1
  have c1 := (hm m m0 m1).2
  have hsd := hB.2.2.1 m m0 m1
  have hk := hB.2.1 (kd B m) hsd.1 hsd.2.1
  have hpl := pl_b hB hG m0 m1
  have h3 := sv_3 (wy B (kd B m)).toNat (by omega)
  have hwb := w_b (wy B (kd B m)).toNat (by omega)
  rw [show (((wy B (kd B m)).toNat : Nat) : Int) = wy B (kd B m) by omega] at h3 hwb
  have hrc : 1 ≤ rchC B (kd B m) ∧ rchC B (kd B m) ≤ 4 := by unfold rchC; split <;> omega
  intro n
  induction n with
  | zero =>
    intro F i g h0 hn hF
    obtain ⟨F, rfl⟩ : ∃ F', F = F' + 1 := ⟨F - 1, by omega⟩
    have hg : bmk (fun q => g q || gWs B G m (upto 0 i) q) = bmk g := bmk_congr (fun q _ _ => by show (g q || false) = g q; rw [Bool.or_false])
    rw [hg]
    simp (disch := omega) only [f_X3_goals_L66, h3, n_i8, n_i16, n_0, n_31, n_add, n_sub, n_mul, n_neg, n_div, n_rem, n_le_t, n_le_f, n_lt_t, n_lt_f, n_eq_t, n_eq_f, n_cl, n_gd, n_gdt, n_nz, Int.reduceToNat, Int.reduceAdd, Int.reduceSub, Int.reduceMul, Int.reduceNeg, Int.reduceLT, Int.reduceLE, Int.reduceEq, Int.reduceDiv, Int.reduceMod, Nat.reduceAdd, Nat.reduceMul, ↓reduceIte]
  | succ n ih =>
    intro F i g h0 hn hF
    obtain ⟨F, rfl⟩ : ∃ F', F = F' + 1 := ⟨F - 1, by omega⟩
    have hal := c_along h (q := pl G m) (w := i) (N := rchC B (kd B m)) (t := sd B m) (by omega) (by omega) h0 (by omega) (by omega) (by omega) (by omega) (by omega)
    have ih := ih F (i + 1) (fun q => g q || alS B G (sd B m) (dxW i) (dyW i) (rchC B (kd B m)).toNat (pl G m % 5) (pl G m / 5) q) (by omega) (by omega) (by omega)
    have hg : bmk (fun q => g q || gWs B G m (upto (n + 1) i) q) = bmk (fun q => (g q || alS B G (sd B m) (dxW i) (dyW i) (rchC B (kd B m)).toNat (pl G m % 5) (pl G m / 5) q) || gWs B G m (upto n (i + 1)) q) := bmk_congr (fun q _ _ => by
      show (g q || (alS B G (sd B m) (dxW i) (dyW i) (rchC B (kd B m)).toNat (pl G m % 5) (pl G m / 5) q || gWs B G m (upto n (i + 1)) q)) = _
      rw [Bool.or_assoc])
    have hor : bmk g ||| bmk (alS B G (sd B m) (dxW i) (dyW i) (rchC B (kd B m)).toNat (pl G m % 5) (pl G m / 5)) = bmk (fun q => g q || alS B G (sd B m) (dxW i) (dyW i) (rchC B (kd B m)).toNat (pl G m % 5) (pl G m / 5) q) := bmk_or _ _
    rw [hg, ← ih]
    rw [f_X3_goals_L66]
    simp (disch := omega) only [h3, hP, c1, hal, hor, g_kk, g_k1, g_n1, g_k2, g_n2, g_k3, g_n3, g_k4, g_n4, g_k5, g_n5, g_k7, g_n7, g_k8, g_n8, g_k9, g_n9, g_k6, g_r3, g_r4, g_r5, g_r6, g_r7, g_r10, g_q0, g_q1, g_q2, p_kk, p_k1, p_n1, p_k2, p_n2, p_k3, p_n3, p_k4, p_n4, p_k5, p_n5, p_k6, p_n6, p_k7, p_n7, p_k8, p_n8, p_k9, p_n9, p_k10, p_n10, p_k11, p_n11, p_k13, p_n13, p_k12, p_r2, p_r4, p_r5, p_r6, p_r7, p_r9, p_r10, p_r11, p_r13, p_r14, p_r15, p_r16, p_h0, n_i8, n_i16, n_0, n_31, n_add, n_sub, n_mul, n_neg, n_div, n_rem, n_le_t, n_le_f, n_lt_t, n_lt_f, n_eq_t, n_eq_f, n_cl, n_gd, n_gdt, n_nz, Int.reduceToNat, Int.reduceAdd, Int.reduceSub, Int.reduceMul, Int.reduceNeg, Int.reduceLT, Int.reduceLE, Int.reduceEq, Int.reduceDiv, Int.reduceMod, Nat.reduceAdd, Nat.reduceMul, ↓reduceIte, u_eq, u_no, u_nk, u_ek, u_2, u_3, j_1, j_3, j_eq, j_no, j_nk, ltd, bnd]
def wysL (k : Int) : List Int := upto (wL k - wF k).toNat (wF k)
theorem c_goals0 {B : Brd} {G : Gam} {o p : Nat} {s : ST} (h : GA B G o p s) {m : Int} (m0 : 0 ≤ m) (m1 : m < bM B) : f_X3_goals o (Int32.ofInt m) s = some (bmk (fun q => !tk G m && gWs B G m (wysL (wy B (kd B m))) q), s) := by
  have h0 := h
  obtain ⟨⟨hB, hG⟩, ⟨ho, hp⟩, hP, ⟨hn, hkk, hm, -⟩, hplc, -⟩ := h0
  have hM : bM B ≤ 8 := hB.1.1.2.2.2.2.2.2.2.1
  have hK : bK B ≤ 5 := hB.1.1.2.2.2.2.2.1
  have c1 := (hm m m0 m1).1
  have hsd := hB.2.2.1 m m0 m1
  have hk := hB.2.1 (kd B m) hsd.1 hsd.2.1
  have c2 := hkk (kd B m) hsd.1 hsd.2.1
  have hpl := pl_b hB hG m0 m1
  have cpl := hplc m m0 m1
  by_cases e : gx G m = -1
  · have e' : tk G m = true := decide_eq_true e
    have hg : bmk (fun q => !tk G m && gWs B G m (wysL (wy B (kd B m))) q) = Int32.ofInt 0 := by
      rw [← bmk_no]
      exact bmk_congr (fun q _ _ => by rw [e', Bool.not_true, Bool.false_and])
    rw [hg]
    have : pl G m = -1 := by omega
    rw [this] at cpl
    simp (disch := omega) only [f_X3_goals, cpl, g_kk, g_k1, g_n1, g_k2, g_n2, g_k3, g_n3, g_k4, g_n4, g_k5, g_n5, g_k7, g_n7, g_k8, g_n8, g_k9, g_n9, g_k6, g_r3, g_r4, g_r5, g_r6, g_r7, g_r10, g_q0, g_q1, g_q2, p_kk, p_k1, p_n1, p_k2, p_n2, p_k3, p_n3, p_k4, p_n4, p_k5, p_n5, p_k6, p_n6, p_k7, p_n7, p_k8, p_n8, p_k9, p_n9, p_k10, p_n10, p_k11, p_n11, p_k13, p_n13, p_k12, p_r2, p_r4, p_r5, p_r6, p_r7, p_r9, p_r10, p_r11, p_r13, p_r14, p_r15, p_r16, p_h0, n_i8, n_i16, n_0, n_31, n_add, n_sub, n_mul, n_neg, n_div, n_rem, n_le_t, n_le_f, n_lt_t, n_lt_f, n_eq_t, n_eq_f, n_cl, n_gd, n_gdt, n_nz, Int.reduceToNat, Int.reduceAdd, Int.reduceSub, Int.reduceMul, Int.reduceNeg, Int.reduceLT, Int.reduceLE, Int.reduceEq, Int.reduceDiv, Int.reduceMod, Nat.reduceAdd, Nat.reduceMul, ↓reduceIte, u_eq, u_no, u_nk, u_ek, u_2, u_3, j_1, j_3, j_eq, j_no, j_nk, ltd, bnd]
  · have e' : tk G m = false := decide_eq_false e
    have h2 := sv_2 (wy B (kd B m)).toNat (by omega)
    have hwb := w_b (wy B (kd B m)).toNat (by omega)
    rw [show (((wy B (kd B m)).toNat : Nat) : Int) = wy B (kd B m) by omega] at h2 hwb
    have hL := c_goals_L h m0 m1 e (wL (wy B (kd B m)) - wF (wy B (kd B m))).toNat fuel (wF (wy B (kd B m))) (fun _ => false) (by omega) (by omega) (by unfold fuel; omega)
    have hg : bmk (fun q => false || gWs B G m (upto (wL (wy B (kd B m)) - wF (wy B (kd B m))).toNat (wF (wy B (kd B m)))) q) = bmk (fun q => !tk G m && gWs B G m (wysL (wy B (kd B m))) q) := bmk_congr (fun q _ _ => by rw [e', Bool.not_false, Bool.true_and, Bool.false_or]; rfl)
    rw [hg, bmk_no] at hL
    have hr : rchC B (kd B m) = if wy B (kd B m) = 4 then 1 else rch B (kd B m) := rfl
    by_cases e4 : wy B (kd B m) = 4
    · rw [if_pos e4] at hr
      rw [hr] at hL
      simp (disch := omega) only [f_X3_goals, f_X3_goals_j53, cpl, hP, c1, c2.1, h2, hL, g_kk, g_k1, g_n1, g_k2, g_n2, g_k3, g_n3, g_k4, g_n4, g_k5, g_n5, g_k7, g_n7, g_k8, g_n8, g_k9, g_n9, g_k6, g_r3, g_r4, g_r5, g_r6, g_r7, g_r10, g_q0, g_q1, g_q2, p_kk, p_k1, p_n1, p_k2, p_n2, p_k3, p_n3, p_k4, p_n4, p_k5, p_n5, p_k6, p_n6, p_k7, p_n7, p_k8, p_n8, p_k9, p_n9, p_k10, p_n10, p_k11, p_n11, p_k13, p_n13, p_k12, p_r2, p_r4, p_r5, p_r6, p_r7, p_r9, p_r10, p_r11, p_r13, p_r14, p_r15, p_r16, p_h0, n_i8, n_i16, n_0, n_31, n_add, n_sub, n_mul, n_neg, n_div, n_rem, n_le_t, n_le_f, n_lt_t, n_lt_f, n_eq_t, n_eq_f, n_cl, n_gd, n_gdt, n_nz, Int.reduceToNat, Int.reduceAdd, Int.reduceSub, Int.reduceMul, Int.reduceNeg, Int.reduceLT, Int.reduceLE, Int.reduceEq, Int.reduceDiv, Int.reduceMod, Nat.reduceAdd, Nat.reduceMul, ↓reduceIte, u_eq, u_no, u_nk, u_ek, u_2, u_3, j_1, j_3, j_eq, j_no, j_nk, ltd, bnd]
    · rw [if_neg e4] at hr
      rw [hr] at hL
      simp (disch := omega) only [f_X3_goals, f_X3_goals_j53, cpl, hP, c1, c2.1, c2.2.1, h2, hL, g_kk, g_k1, g_n1, g_k2, g_n2, g_k3, g_n3, g_k4, g_n4, g_k5, g_n5, g_k7, g_n7, g_k8, g_n8, g_k9, g_n9, g_k6, g_r3, g_r4, g_r5, g_r6, g_r7, g_r10, g_q0, g_q1, g_q2, p_kk, p_k1, p_n1, p_k2, p_n2, p_k3, p_n3, p_k4, p_n4, p_k5, p_n5, p_k6, p_n6, p_k7, p_n7, p_k8, p_n8, p_k9, p_n9, p_k10, p_n10, p_k11, p_n11, p_k13, p_n13, p_k12, p_r2, p_r4, p_r5, p_r6, p_r7, p_r9, p_r10, p_r11, p_r13, p_r14, p_r15, p_r16, p_h0, n_i8, n_i16, n_0, n_31, n_add, n_sub, n_mul, n_neg, n_div, n_rem, n_le_t, n_le_f, n_lt_t, n_lt_f, n_eq_t, n_eq_f, n_cl, n_gd, n_gdt, n_nz, Int.reduceToNat, Int.reduceAdd, Int.reduceSub, Int.reduceMul, Int.reduceNeg, Int.reduceLT, Int.reduceLE, Int.reduceEq, Int.reduceDiv, Int.reduceMod, Nat.reduceAdd, Nat.reduceMul, ↓reduceIte, u_eq, u_no, u_nk, u_ek, u_2, u_3, j_1, j_3, j_eq, j_no, j_nk, ltd, bnd]
