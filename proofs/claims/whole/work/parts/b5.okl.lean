/-! L3: letters of names -/
theorem bv32_of {m : Nat} (h : m < 4294967296) : (BitVec.ofInt 32 (m : Int)).toNat = m := by
  rw [BitVec.toNat_ofInt]
  show ((m : Int) % 4294967296).toNat = m
  omega
theorem sar31 {a n : Nat} (a1 : a < 1073741824) (hn : n < 31) : (Int32.ofInt (a : Int) >>> (Int32.ofInt (n : Int) &&& Int32.ofInt 31)) &&& Int32.ofInt 31 = Int32.ofInt ((a / 2 ^ n % 32 : Nat) : Int) := by
  have hs := sar_n n (by omega)
  have hm : (BitVec.ofInt 32 (a : Int)).msb = false := by
    rw [BitVec.msb_eq_decide, bv32_of (by omega)]
    exact decide_eq_false (by show ¬ 2147483648 ≤ a; omega)
  apply Int32.toBitVec.inj
  apply BitVec.eq_of_toNat_eq
  show (((BitVec.ofInt 32 (a : Int)).sshiftRight ((Int32.ofInt (n : Int) &&& Int32.ofInt 31).toBitVec.smod 32).toNat) &&& BitVec.ofInt 32 ((31 : Nat) : Int)).toNat = (BitVec.ofInt 32 ((a / 2 ^ n % 32 : Nat) : Int)).toNat
  have hl : a / 2 ^ n % 32 < 32 := Nat.mod_lt _ (by omega)
  rw [hs, BitVec.sshiftRight_eq_of_msb_false hm, BitVec.toNat_and, BitVec.toNat_ushiftRight, bv32_of (by omega), bv32_of (by omega), bv32_of (by omega), Nat.shiftRight_eq_div_pow]
  exact Nat.and_two_pow_sub_one_eq_mod _ 5
def d32 : Nat → Int → Int
  | 0, a => a
  | k + 1, a => d32 k (a / 32)
theorem b32_get : ∀ (l : List Int) (k : Nat), (∀ v ∈ l, 1 ≤ v ∧ v ≤ 26) → d32 k (b32 l) % 32 = l.getD k 0
  | [], k, _ => by
    have h0 : ∀ k : Nat, d32 k 0 = 0 := by
      intro k
      induction k with
      | zero => rfl
      | succ k ih => show d32 k (0 / 32) = 0; exact ih
    show d32 k 0 % 32 = 0
    rw [h0]
    rfl
  | v :: r, 0, h => by
    have hv := h v List.mem_cons_self
    show (32 * b32 r + v) % 32 = v
    omega
  | v :: r, k + 1, h => by
    have hv := h v List.mem_cons_self
    show d32 k ((32 * b32 r + v) / 32) % 32 = r.getD k 0
    rw [show (32 * b32 r + v) / 32 = b32 r by omega]
    exact b32_get r k (fun u hu => h u (List.mem_cons_of_mem _ hu))
theorem b32_b : ∀ (l : List Int) (m : Nat), l.length ≤ m → (∀ v ∈ l, 1 ≤ v ∧ v ≤ 26) → 0 ≤ b32 l ∧ b32 l < 32 ^ m
  | [], m, _, _ => ⟨Int.le_refl 0, Int.pow_pos (by omega)⟩
  | v :: r, 0, h, _ => by simp at h
  | v :: r, m + 1, h, hl => by
    have hv := hl v List.mem_cons_self
    have := b32_b r m (by rw [List.length_cons] at h; omega) (fun u hu => hl u (List.mem_cons_of_mem _ hu))
    show 0 ≤ 32 * b32 r + v ∧ 32 * b32 r + v < 32 ^ (m + 1)
    rw [Int.pow_succ]
    omega
theorem c_letterOf {l : List Int} (hl : NV l) {j : Int} (j0 : 0 ≤ j) (j1 : j ≤ 5) (s : ST) : f_X9_letterOf (Int32.ofInt (b32 l)) (Int32.ofInt j) s = some (Int32.ofInt (l.getD j.toNat 0), s) := by
  have hb := b32_b l 6 hl.2.1 hl.2.2
  have hb2 : b32 l < 1073741824 := hb.2
  have hg := b32_get l j.toNat hl.2.2
  have hsr := sar31 (a := (b32 l).toNat) (n := (5 * j).toNat) (by omega) (by omega)
  rw [show (((b32 l).toNat : Nat) : Int) = b32 l by omega, show (((5 * j).toNat : Nat) : Int) = 5 * j by omega] at hsr
  have he : (((b32 l).toNat / 2 ^ (5 * j).toNat % 32 : Nat) : Int) = d32 j.toNat (b32 l) % 32 := by
    have hj : j = 0 ∨ j = 1 ∨ j = 2 ∨ j = 3 ∨ j = 4 ∨ j = 5 := by omega
    rcases hj with rfl | rfl | rfl | rfl | rfl | rfl
    · show (((b32 l).toNat / 1 % 32 : Nat) : Int) = b32 l % 32
      omega
    · show (((b32 l).toNat / 32 % 32 : Nat) : Int) = b32 l / 32 % 32
      omega
    · show (((b32 l).toNat / 1024 % 32 : Nat) : Int) = b32 l / 32 / 32 % 32
      omega
    · show (((b32 l).toNat / 32768 % 32 : Nat) : Int) = b32 l / 32 / 32 / 32 % 32
      omega
    · show (((b32 l).toNat / 1048576 % 32 : Nat) : Int) = b32 l / 32 / 32 / 32 / 32 % 32
      omega
    · show (((b32 l).toNat / 33554432 % 32 : Nat) : Int) = b32 l / 32 / 32 / 32 / 32 / 32 % 32
      omega
  rw [he, hg] at hsr
  simp (disch := omega) only [f_X9_letterOf, hsr, n_i8, n_i16, n_0, n_31, n_add, n_sub, n_mul, n_neg, n_div, n_rem, n_le_t, n_le_f, n_lt_t, n_lt_f, n_eq_t, n_eq_f, n_cl, n_gd, n_gdt, n_nz, Int.reduceToNat, Int.reduceAdd, Int.reduceSub, Int.reduceMul, Int.reduceNeg, Int.reduceLT, Int.reduceLE, Int.reduceEq, Int.reduceDiv, Int.reduceMod, Nat.reduceAdd, Nat.reduceMul, ↓reduceIte, u_eq, u_no, u_nk, u_ek, u_2, u_3, j_1, j_3, j_eq, j_no, j_nk, ltd, bnd]
def aLet (B : Brd) (N : Int → Int → List Int) (k w j : Int) : Int := if (0 ≤ k ∧ k ≤ 2) ∧ (0 ≤ w ∧ w < cnt B k) ∧ (0 ≤ j ∧ j ≤ 5) then (N k w).getD j.toNat 0 else -1
theorem c_letter {B : Brd} {G : Gam} {brd : Bool} {p : Nat} {N : Int → Int → List Int} {s : ST} (h : CQ B G brd p s) (hN : NC B N p s) (hV : ∀ k w : Int, 0 ≤ k → k ≤ 2 → 0 ≤ w → w < cnt B k → NV (N k w)) {k w j : Int} (k1 : -2147483648 ≤ k) (k2 : k ≤ 2147483647) (w1 : -2147483648 ≤ w) (w2 : w ≤ 2147483647) (j1 : -2147483648 ≤ j) (j2 : j ≤ 2147483647) : f_X9_letter (Int32.ofInt k) (Int32.ofInt w) (Int32.ofInt j) s = some (Int32.ofInt (aLet B N k w j), s) := by
  have hA := h.1.1.1
  have hB := hA.1.1
  have hp := hA.2.1.2
  have hP := h.2.1.1
  have hn := hA.2.2.2.1.1
  unfold PBn at hn
  have c3 := hn.2.2.1
  have c8 := hn.2.2.2.1
  have c12 := hn.2.2.2.2.1
  have hK5 : bK B ≤ 5 := hB.1.1.2.2.2.2.2.1
  have hK0 : 0 ≤ bK B := hB.1.1.2.2.2.2.1
  have hM8 : bM B ≤ 8 := hB.1.1.2.2.2.2.2.2.2.1
  have hM0 : 0 ≤ bM B := hB.1.1.2.2.2.2.2.2.1
  have hF6 : bF B ≤ 6 := hB.1.1.2.2.2.2.2.2.2.2.2
  have hF0 : 0 ≤ bF B := hB.1.1.2.2.2.2.2.2.2.2.1
  unfold aLet
  by_cases e1 : j < 0
  · rw [if_neg (by omega)]
    simp (disch := omega) only [f_X9_letter, n_i8, n_i16, n_0, n_31, n_add, n_sub, n_mul, n_neg, n_div, n_rem, n_le_t, n_le_f, n_lt_t, n_lt_f, n_eq_t, n_eq_f, n_cl, n_gd, n_gdt, n_nz, Int.reduceToNat, Int.reduceAdd, Int.reduceSub, Int.reduceMul, Int.reduceNeg, Int.reduceLT, Int.reduceLE, Int.reduceEq, Int.reduceDiv, Int.reduceMod, Nat.reduceAdd, Nat.reduceMul, ↓reduceIte, u_eq, u_no, u_nk, u_ek, u_2, u_3, j_1, j_3, j_eq, j_no, j_nk, ltd, bnd]
  by_cases e2 : 6 ≤ j
  · rw [if_neg (by omega)]
    simp (disch := omega) only [f_X9_letter, n_i8, n_i16, n_0, n_31, n_add, n_sub, n_mul, n_neg, n_div, n_rem, n_le_t, n_le_f, n_lt_t, n_lt_f, n_eq_t, n_eq_f, n_cl, n_gd, n_gdt, n_nz, Int.reduceToNat, Int.reduceAdd, Int.reduceSub, Int.reduceMul, Int.reduceNeg, Int.reduceLT, Int.reduceLE, Int.reduceEq, Int.reduceDiv, Int.reduceMod, Nat.reduceAdd, Nat.reduceMul, ↓reduceIte, u_eq, u_no, u_nk, u_ek, u_2, u_3, j_1, j_3, j_eq, j_no, j_nk, ltd, bnd]
  by_cases e3 : w < 0
  · rw [if_neg (by omega)]
    simp (disch := omega) only [f_X9_letter, n_i8, n_i16, n_0, n_31, n_add, n_sub, n_mul, n_neg, n_div, n_rem, n_le_t, n_le_f, n_lt_t, n_lt_f, n_eq_t, n_eq_f, n_cl, n_gd, n_gdt, n_nz, Int.reduceToNat, Int.reduceAdd, Int.reduceSub, Int.reduceMul, Int.reduceNeg, Int.reduceLT, Int.reduceLE, Int.reduceEq, Int.reduceDiv, Int.reduceMod, Nat.reduceAdd, Nat.reduceMul, ↓reduceIte, u_eq, u_no, u_nk, u_ek, u_2, u_3, j_1, j_3, j_eq, j_no, j_nk, ltd, bnd]
  by_cases v0 : k = 0
  · subst v0
    rw [show cnt B 0 = bK B from rfl]
    by_cases e : w < bK B
    · rw [if_pos (by omega)]
      have hc : s.1 (p + 11) (0 + w).toNat = Int32.ofInt (b32 (N 0 w)) := hN 0 w (by omega) (by omega) (by omega) e
      rw [Int.zero_add] at hc
      have hl := c_letterOf (hV 0 w (by omega) (by omega) (by omega) e) (j := j) (by omega) (by omega) s
      simp (disch := omega) only [f_X9_letter, hP, c3, hc, hl, g_kk, g_k1, g_n1, g_k2, g_n2, g_k3, g_n3, g_k4, g_n4, g_k5, g_n5, g_k7, g_n7, g_k8, g_n8, g_k9, g_n9, g_k6, g_r3, g_r4, g_r5, g_r6, g_r7, g_r10, g_q0, g_q1, g_q2, p_kk, p_k1, p_n1, p_k2, p_n2, p_k3, p_n3, p_k4, p_n4, p_k5, p_n5, p_k6, p_n6, p_k7, p_n7, p_k8, p_n8, p_k9, p_n9, p_k10, p_n10, p_k11, p_n11, p_k13, p_n13, p_k12, p_r2, p_r4, p_r5, p_r6, p_r7, p_r9, p_r10, p_r11, p_r13, p_r14, p_r15, p_r16, p_h0, n_i8, n_i16, n_0, n_31, n_add, n_sub, n_mul, n_neg, n_div, n_rem, n_le_t, n_le_f, n_lt_t, n_lt_f, n_eq_t, n_eq_f, n_cl, n_gd, n_gdt, n_nz, Int.reduceToNat, Int.reduceAdd, Int.reduceSub, Int.reduceMul, Int.reduceNeg, Int.reduceLT, Int.reduceLE, Int.reduceEq, Int.reduceDiv, Int.reduceMod, Nat.reduceAdd, Nat.reduceMul, ↓reduceIte, u_eq, u_no, u_nk, u_ek, u_2, u_3, j_1, j_3, j_eq, j_no, j_nk, ltd, bnd, n_l1, n_l2, n_l3, n_l4, n_l5, n_l6, n_l7, n_l8, n_l9, n_l10, n_l11, n_l12, n_l13, n_l14, n_l15, n_l16, n_l17, n_l18, n_l19, n_l20, n_l21, n_l22, n_l23, n_l24, n_l25, n_l26, n_l27, n_l28, n_l29, n_l30, n_l31, n_l32, n_l33, n_l34, n_l35, n_l36, n_l37, n_l38, n_l39, n_l40, n_l41, n_l42, n_l43, n_l44, n_l45, n_l46, n_l47, n_l48, n_l49, n_l50, n_l51, n_l52, n_l53, n_l54, n_l55, n_l56, n_l57, n_l58, n_l59, n_l60]
    · rw [if_neg (by omega)]
      simp (disch := omega) only [f_X9_letter, hP, c3, g_kk, g_k1, g_n1, g_k2, g_n2, g_k3, g_n3, g_k4, g_n4, g_k5, g_n5, g_k7, g_n7, g_k8, g_n8, g_k9, g_n9, g_k6, g_r3, g_r4, g_r5, g_r6, g_r7, g_r10, g_q0, g_q1, g_q2, p_kk, p_k1, p_n1, p_k2, p_n2, p_k3, p_n3, p_k4, p_n4, p_k5, p_n5, p_k6, p_n6, p_k7, p_n7, p_k8, p_n8, p_k9, p_n9, p_k10, p_n10, p_k11, p_n11, p_k13, p_n13, p_k12, p_r2, p_r4, p_r5, p_r6, p_r7, p_r9, p_r10, p_r11, p_r13, p_r14, p_r15, p_r16, p_h0, n_i8, n_i16, n_0, n_31, n_add, n_sub, n_mul, n_neg, n_div, n_rem, n_le_t, n_le_f, n_lt_t, n_lt_f, n_eq_t, n_eq_f, n_cl, n_gd, n_gdt, n_nz, Int.reduceToNat, Int.reduceAdd, Int.reduceSub, Int.reduceMul, Int.reduceNeg, Int.reduceLT, Int.reduceLE, Int.reduceEq, Int.reduceDiv, Int.reduceMod, Nat.reduceAdd, Nat.reduceMul, ↓reduceIte, u_eq, u_no, u_nk, u_ek, u_2, u_3, j_1, j_3, j_eq, j_no, j_nk, ltd, bnd, n_l1, n_l2, n_l3, n_l4, n_l5, n_l6, n_l7, n_l8, n_l9, n_l10, n_l11, n_l12, n_l13, n_l14, n_l15, n_l16, n_l17, n_l18, n_l19, n_l20, n_l21, n_l22, n_l23, n_l24, n_l25, n_l26, n_l27, n_l28, n_l29, n_l30, n_l31, n_l32, n_l33, n_l34, n_l35, n_l36, n_l37, n_l38, n_l39, n_l40, n_l41, n_l42, n_l43, n_l44, n_l45, n_l46, n_l47, n_l48, n_l49, n_l50, n_l51, n_l52, n_l53, n_l54, n_l55, n_l56, n_l57, n_l58, n_l59, n_l60]
  by_cases v1 : k = 1
  · subst v1
    rw [show cnt B 1 = bM B from rfl]
    by_cases e : w < bM B
    · rw [if_pos (by omega)]
      have hc : s.1 (p + 11) (5 + w).toNat = Int32.ofInt (b32 (N 1 w)) := hN 1 w (by omega) (by omega) (by omega) e
      have hl := c_letterOf (hV 1 w (by omega) (by omega) (by omega) e) (j := j) (by omega) (by omega) s
      simp (disch := omega) only [f_X9_letter, hP, c8, hc, hl, g_kk, g_k1, g_n1, g_k2, g_n2, g_k3, g_n3, g_k4, g_n4, g_k5, g_n5, g_k7, g_n7, g_k8, g_n8, g_k9, g_n9, g_k6, g_r3, g_r4, g_r5, g_r6, g_r7, g_r10, g_q0, g_q1, g_q2, p_kk, p_k1, p_n1, p_k2, p_n2, p_k3, p_n3, p_k4, p_n4, p_k5, p_n5, p_k6, p_n6, p_k7, p_n7, p_k8, p_n8, p_k9, p_n9, p_k10, p_n10, p_k11, p_n11, p_k13, p_n13, p_k12, p_r2, p_r4, p_r5, p_r6, p_r7, p_r9, p_r10, p_r11, p_r13, p_r14, p_r15, p_r16, p_h0, n_i8, n_i16, n_0, n_31, n_add, n_sub, n_mul, n_neg, n_div, n_rem, n_le_t, n_le_f, n_lt_t, n_lt_f, n_eq_t, n_eq_f, n_cl, n_gd, n_gdt, n_nz, Int.reduceToNat, Int.reduceAdd, Int.reduceSub, Int.reduceMul, Int.reduceNeg, Int.reduceLT, Int.reduceLE, Int.reduceEq, Int.reduceDiv, Int.reduceMod, Nat.reduceAdd, Nat.reduceMul, ↓reduceIte, u_eq, u_no, u_nk, u_ek, u_2, u_3, j_1, j_3, j_eq, j_no, j_nk, ltd, bnd, n_l1, n_l2, n_l3, n_l4, n_l5, n_l6, n_l7, n_l8, n_l9, n_l10, n_l11, n_l12, n_l13, n_l14, n_l15, n_l16, n_l17, n_l18, n_l19, n_l20, n_l21, n_l22, n_l23, n_l24, n_l25, n_l26, n_l27, n_l28, n_l29, n_l30, n_l31, n_l32, n_l33, n_l34, n_l35, n_l36, n_l37, n_l38, n_l39, n_l40, n_l41, n_l42, n_l43, n_l44, n_l45, n_l46, n_l47, n_l48, n_l49, n_l50, n_l51, n_l52, n_l53, n_l54, n_l55, n_l56, n_l57, n_l58, n_l59, n_l60]
    · rw [if_neg (by omega)]
      simp (disch := omega) only [f_X9_letter, hP, c8, g_kk, g_k1, g_n1, g_k2, g_n2, g_k3, g_n3, g_k4, g_n4, g_k5, g_n5, g_k7, g_n7, g_k8, g_n8, g_k9, g_n9, g_k6, g_r3, g_r4, g_r5, g_r6, g_r7, g_r10, g_q0, g_q1, g_q2, p_kk, p_k1, p_n1, p_k2, p_n2, p_k3, p_n3, p_k4, p_n4, p_k5, p_n5, p_k6, p_n6, p_k7, p_n7, p_k8, p_n8, p_k9, p_n9, p_k10, p_n10, p_k11, p_n11, p_k13, p_n13, p_k12, p_r2, p_r4, p_r5, p_r6, p_r7, p_r9, p_r10, p_r11, p_r13, p_r14, p_r15, p_r16, p_h0, n_i8, n_i16, n_0, n_31, n_add, n_sub, n_mul, n_neg, n_div, n_rem, n_le_t, n_le_f, n_lt_t, n_lt_f, n_eq_t, n_eq_f, n_cl, n_gd, n_gdt, n_nz, Int.reduceToNat, Int.reduceAdd, Int.reduceSub, Int.reduceMul, Int.reduceNeg, Int.reduceLT, Int.reduceLE, Int.reduceEq, Int.reduceDiv, Int.reduceMod, Nat.reduceAdd, Nat.reduceMul, ↓reduceIte, u_eq, u_no, u_nk, u_ek, u_2, u_3, j_1, j_3, j_eq, j_no, j_nk, ltd, bnd, n_l1, n_l2, n_l3, n_l4, n_l5, n_l6, n_l7, n_l8, n_l9, n_l10, n_l11, n_l12, n_l13, n_l14, n_l15, n_l16, n_l17, n_l18, n_l19, n_l20, n_l21, n_l22, n_l23, n_l24, n_l25, n_l26, n_l27, n_l28, n_l29, n_l30, n_l31, n_l32, n_l33, n_l34, n_l35, n_l36, n_l37, n_l38, n_l39, n_l40, n_l41, n_l42, n_l43, n_l44, n_l45, n_l46, n_l47, n_l48, n_l49, n_l50, n_l51, n_l52, n_l53, n_l54, n_l55, n_l56, n_l57, n_l58, n_l59, n_l60]
  by_cases v2 : k = 2
  · subst v2
    rw [show cnt B 2 = bF B from rfl]
    by_cases e : w < bF B
    · rw [if_pos (by omega)]
      have hc : s.1 (p + 11) (13 + w).toNat = Int32.ofInt (b32 (N 2 w)) := hN 2 w (by omega) (by omega) (by omega) e
      have hl := c_letterOf (hV 2 w (by omega) (by omega) (by omega) e) (j := j) (by omega) (by omega) s
      simp (disch := omega) only [f_X9_letter, hP, c12, hc, hl, g_kk, g_k1, g_n1, g_k2, g_n2, g_k3, g_n3, g_k4, g_n4, g_k5, g_n5, g_k7, g_n7, g_k8, g_n8, g_k9, g_n9, g_k6, g_r3, g_r4, g_r5, g_r6, g_r7, g_r10, g_q0, g_q1, g_q2, p_kk, p_k1, p_n1, p_k2, p_n2, p_k3, p_n3, p_k4, p_n4, p_k5, p_n5, p_k6, p_n6, p_k7, p_n7, p_k8, p_n8, p_k9, p_n9, p_k10, p_n10, p_k11, p_n11, p_k13, p_n13, p_k12, p_r2, p_r4, p_r5, p_r6, p_r7, p_r9, p_r10, p_r11, p_r13, p_r14, p_r15, p_r16, p_h0, n_i8, n_i16, n_0, n_31, n_add, n_sub, n_mul, n_neg, n_div, n_rem, n_le_t, n_le_f, n_lt_t, n_lt_f, n_eq_t, n_eq_f, n_cl, n_gd, n_gdt, n_nz, Int.reduceToNat, Int.reduceAdd, Int.reduceSub, Int.reduceMul, Int.reduceNeg, Int.reduceLT, Int.reduceLE, Int.reduceEq, Int.reduceDiv, Int.reduceMod, Nat.reduceAdd, Nat.reduceMul, ↓reduceIte, u_eq, u_no, u_nk, u_ek, u_2, u_3, j_1, j_3, j_eq, j_no, j_nk, ltd, bnd, n_l1, n_l2, n_l3, n_l4, n_l5, n_l6, n_l7, n_l8, n_l9, n_l10, n_l11, n_l12, n_l13, n_l14, n_l15, n_l16, n_l17, n_l18, n_l19, n_l20, n_l21, n_l22, n_l23, n_l24, n_l25, n_l26, n_l27, n_l28, n_l29, n_l30, n_l31, n_l32, n_l33, n_l34, n_l35, n_l36, n_l37, n_l38, n_l39, n_l40, n_l41, n_l42, n_l43, n_l44, n_l45, n_l46, n_l47, n_l48, n_l49, n_l50, n_l51, n_l52, n_l53, n_l54, n_l55, n_l56, n_l57, n_l58, n_l59, n_l60]
    · rw [if_neg (by omega)]
      simp (disch := omega) only [f_X9_letter, hP, c12, g_kk, g_k1, g_n1, g_k2, g_n2, g_k3, g_n3, g_k4, g_n4, g_k5, g_n5, g_k7, g_n7, g_k8, g_n8, g_k9, g_n9, g_k6, g_r3, g_r4, g_r5, g_r6, g_r7, g_r10, g_q0, g_q1, g_q2, p_kk, p_k1, p_n1, p_k2, p_n2, p_k3, p_n3, p_k4, p_n4, p_k5, p_n5, p_k6, p_n6, p_k7, p_n7, p_k8, p_n8, p_k9, p_n9, p_k10, p_n10, p_k11, p_n11, p_k13, p_n13, p_k12, p_r2, p_r4, p_r5, p_r6, p_r7, p_r9, p_r10, p_r11, p_r13, p_r14, p_r15, p_r16, p_h0, n_i8, n_i16, n_0, n_31, n_add, n_sub, n_mul, n_neg, n_div, n_rem, n_le_t, n_le_f, n_lt_t, n_lt_f, n_eq_t, n_eq_f, n_cl, n_gd, n_gdt, n_nz, Int.reduceToNat, Int.reduceAdd, Int.reduceSub, Int.reduceMul, Int.reduceNeg, Int.reduceLT, Int.reduceLE, Int.reduceEq, Int.reduceDiv, Int.reduceMod, Nat.reduceAdd, Nat.reduceMul, ↓reduceIte, u_eq, u_no, u_nk, u_ek, u_2, u_3, j_1, j_3, j_eq, j_no, j_nk, ltd, bnd, n_l1, n_l2, n_l3, n_l4, n_l5, n_l6, n_l7, n_l8, n_l9, n_l10, n_l11, n_l12, n_l13, n_l14, n_l15, n_l16, n_l17, n_l18, n_l19, n_l20, n_l21, n_l22, n_l23, n_l24, n_l25, n_l26, n_l27, n_l28, n_l29, n_l30, n_l31, n_l32, n_l33, n_l34, n_l35, n_l36, n_l37, n_l38, n_l39, n_l40, n_l41, n_l42, n_l43, n_l44, n_l45, n_l46, n_l47, n_l48, n_l49, n_l50, n_l51, n_l52, n_l53, n_l54, n_l55, n_l56, n_l57, n_l58, n_l59, n_l60]
  · rw [if_neg (by omega)]
    simp (disch := omega) only [f_X9_letter, n_i8, n_i16, n_0, n_31, n_add, n_sub, n_mul, n_neg, n_div, n_rem, n_le_t, n_le_f, n_lt_t, n_lt_f, n_eq_t, n_eq_f, n_cl, n_gd, n_gdt, n_nz, Int.reduceToNat, Int.reduceAdd, Int.reduceSub, Int.reduceMul, Int.reduceNeg, Int.reduceLT, Int.reduceLE, Int.reduceEq, Int.reduceDiv, Int.reduceMod, Nat.reduceAdd, Nat.reduceMul, ↓reduceIte, u_eq, u_no, u_nk, u_ek, u_2, u_3, j_1, j_3, j_eq, j_no, j_nk, ltd, bnd, n_l1, n_l2, n_l3, n_l4, n_l5, n_l6, n_l7, n_l8, n_l9, n_l10, n_l11, n_l12, n_l13, n_l14, n_l15, n_l16, n_l17, n_l18, n_l19, n_l20, n_l21, n_l22, n_l23, n_l24, n_l25, n_l26, n_l27, n_l28, n_l29, n_l30, n_l31, n_l32, n_l33, n_l34, n_l35, n_l36, n_l37, n_l38, n_l39, n_l40, n_l41, n_l42, n_l43, n_l44, n_l45, n_l46, n_l47, n_l48, n_l49, n_l50, n_l51, n_l52, n_l53, n_l54, n_l55, n_l56, n_l57, n_l58, n_l59, n_l60]
theorem l_dv {a : Int} (a0 : 0 ≤ a) (a1 : a ≤ 1000000000000) : Int64.ofInt a / Int64.ofInt 27 = Int64.ofInt (a / 27) := by
  rw [l_div (by omega) (by omega) (by omega) (by omega), Int.tdiv_eq_ediv_of_nonneg a0]
theorem b27_cons (r : List Int) (v : Int) : b27 (v :: r).reverse = 27 * b27 r.reverse + v := by
  unfold b27
  rw [List.reverse_cons, List.foldl_append]
  rfl
theorem b27_b : ∀ (r : List Int) (m : Nat), r.length ≤ m → (∀ v ∈ r, 1 ≤ v ∧ v ≤ 26) → 0 ≤ b27 r.reverse ∧ b27 r.reverse < 27 ^ m ∧ (r ≠ [] → 1 ≤ b27 r.reverse)
  | [], m, _, _ => ⟨Int.le_refl 0, Int.pow_pos (by omega), fun h => absurd rfl h⟩
  | v :: r, 0, h, _ => by simp at h
  | v :: r, m + 1, h, hl => by
    have hv := hl v List.mem_cons_self
    have := b27_b r m (by rw [List.length_cons] at h; omega) (fun u hu => hl u (List.mem_cons_of_mem _ hu))
    rw [b27_cons, Int.pow_succ]
    refine ⟨by omega, by omega, fun _ => by omega⟩
theorem m_let_a (K : Int32 → Int64 → Int32 → ST → Option (Int32 × ST)) (j : Int32) (v : Int64) (s : ST) : ∀ (r : List Int) (F : Nat) (c : Int), r.length ≤ 6 → (∀ v ∈ r, 1 ≤ v ∧ v ≤ 26) → r.length < F → 0 ≤ c → c + (r.length : Int) ≤ 50 → f_X10_letter_L69 K F j v (Int32.ofInt c) (Int64.ofInt (b27 r.reverse)) s = K j v (Int32.ofInt (c + (r.length : Int))) s := by
  intro r
  induction r with
  | nil =>
    intro F c hl hv hF c0 c1
    obtain ⟨F, rfl⟩ : ∃ F', F = F' + 1 := ⟨F - 1, by simp at hF; omega⟩
    rw [show b27 ([] : List Int).reverse = 0 from rfl, show c + (([] : List Int).length : Int) = c from Int.add_zero c]
    simp (disch := omega) only [f_X10_letter_L69, n_i8, n_i16, n_0, n_31, n_add, n_sub, n_mul, n_neg, n_div, n_rem, n_le_t, n_le_f, n_lt_t, n_lt_f, n_eq_t, n_eq_f, n_cl, n_gd, n_gdt, n_nz, Int.reduceToNat, Int.reduceAdd, Int.reduceSub, Int.reduceMul, Int.reduceNeg, Int.reduceLT, Int.reduceLE, Int.reduceEq, Int.reduceDiv, Int.reduceMod, Nat.reduceAdd, Nat.reduceMul, ↓reduceIte, l_0, l_1, l_00, l_i, l_j, l_add, l_sub, l_mul, l_gt, l_ceq, l_clt, l_nz, u_eq, u_no, u_nk, u_ek, u_2, u_3, j_1, j_3, j_eq, j_no, j_nk, ltd, bnd]
  | cons v' r ih =>
    intro F c hl hv hF c0 c1
    rw [List.length_cons] at hl hF
    have c1' : c + ((r.length + 1 : Nat) : Int) ≤ 50 := c1
    obtain ⟨F, rfl⟩ : ∃ F', F = F' + 1 := ⟨F - 1, by omega⟩
    have hv' := hv v' List.mem_cons_self
    have hvr : ∀ u ∈ r, 1 ≤ u ∧ u ≤ 26 := fun u hu => hv u (List.mem_cons_of_mem _ hu)
    have hb := b27_b (v' :: r) 6 (by rw [List.length_cons]; omega) hv
    have hb2 : b27 (v' :: r).reverse < 387420489 := hb.2.1
    have hb3 := hb.2.2 (by simp)
    have hd := l_dv hb.1 (by omega)
    have hq : b27 (v' :: r).reverse / 27 = b27 r.reverse := by rw [b27_cons]; omega
    rw [hq] at hd
    have ih := ih F (c + 1) (by omega) hvr (by omega) (by omega) (by omega)
    rw [List.length_cons, show c + ((r.length + 1 : Nat) : Int) = c + 1 + (r.length : Int) by omega, ← ih, f_X10_letter_L69]
    simp (disch := omega) only [hd, n_i8, n_i16, n_0, n_31, n_add, n_sub, n_mul, n_neg, n_div, n_rem, n_le_t, n_le_f, n_lt_t, n_lt_f, n_eq_t, n_eq_f, n_cl, n_gd, n_gdt, n_nz, Int.reduceToNat, Int.reduceAdd, Int.reduceSub, Int.reduceMul, Int.reduceNeg, Int.reduceLT, Int.reduceLE, Int.reduceEq, Int.reduceDiv, Int.reduceMod, Nat.reduceAdd, Nat.reduceMul, ↓reduceIte, l_0, l_1, l_00, l_i, l_j, l_add, l_sub, l_mul, l_gt, l_ceq, l_clt, l_nz, u_eq, u_no, u_nk, u_ek, u_2, u_3, j_1, j_3, j_eq, j_no, j_nk, ltd, bnd]
theorem m_let_b (K : Int64 → ST → Option (Int32 × ST)) (s : ST) {j : Int} (j0 : 0 ≤ j) (j1 : j ≤ 5) : ∀ (m : Nat) (r : List Int) (F : Nat), (m : Int) + j + 1 = (r.length : Int) → r.length ≤ 6 → (∀ v ∈ r, 1 ≤ v ∧ v ≤ 26) → m < F → f_X10_letter_L104 K F (Int32.ofInt j) (Int64.ofInt (b27 r.reverse)) (Int32.ofInt ((m : Int) + j)) s = K (Int64.ofInt (b27 (r.drop m).reverse)) s := by
  intro m
  induction m with
  | zero =>
    intro r F hm hl hv hF
    obtain ⟨F, rfl⟩ : ∃ F', F = F' + 1 := ⟨F - 1, by omega⟩
    rw [List.drop_zero, show ((0 : Nat) : Int) + j = j from Int.zero_add j]
    simp (disch := omega) only [f_X10_letter_L104, n_i8, n_i16, n_0, n_31, n_add, n_sub, n_mul, n_neg, n_div, n_rem, n_le_t, n_le_f, n_lt_t, n_lt_f, n_eq_t, n_eq_f, n_cl, n_gd, n_gdt, n_nz, Int.reduceToNat, Int.reduceAdd, Int.reduceSub, Int.reduceMul, Int.reduceNeg, Int.reduceLT, Int.reduceLE, Int.reduceEq, Int.reduceDiv, Int.reduceMod, Nat.reduceAdd, Nat.reduceMul, ↓reduceIte, u_eq, u_no, u_nk, u_ek, u_2, u_3, j_1, j_3, j_eq, j_no, j_nk, ltd, bnd]
  | succ m ih =>
    intro r F hm hl hv hF
    obtain ⟨F, rfl⟩ : ∃ F', F = F' + 1 := ⟨F - 1, by omega⟩
    cases r with
    | nil => simp at hm; omega
    | cons v' r =>
      rw [List.length_cons] at hm hl
      have hb := b27_b (v' :: r) 6 (by rw [List.length_cons]; omega) hv
      have hb2 : b27 (v' :: r).reverse < 387420489 := hb.2.1
      have hv' := hv v' List.mem_cons_self
      have hd := l_dv hb.1 (by omega)
      have hq : b27 (v' :: r).reverse / 27 = b27 r.reverse := by rw [b27_cons]; omega
      rw [hq] at hd
      have ih := ih r F (by omega) (by omega) (fun u hu => hv u (List.mem_cons_of_mem _ hu)) (by omega)
      rw [List.drop_succ_cons, ← ih, f_X10_letter_L104, show ((m + 1 : Nat) : Int) + j = (m : Int) + j + 1 by omega]
      have e : (m : Int) + j + 1 + -1 = (m : Int) + j := by omega
      simp (disch := omega) only [hd, e, n_i8, n_i16, n_0, n_31, n_add, n_sub, n_mul, n_neg, n_div, n_rem, n_le_t, n_le_f, n_lt_t, n_lt_f, n_eq_t, n_eq_f, n_cl, n_gd, n_gdt, n_nz, Int.reduceToNat, Int.reduceAdd, Int.reduceSub, Int.reduceMul, Int.reduceNeg, Int.reduceLT, Int.reduceLE, Int.reduceEq, Int.reduceDiv, Int.reduceMod, Nat.reduceAdd, Nat.reduceMul, ↓reduceIte, u_eq, u_no, u_nk, u_ek, u_2, u_3, j_1, j_3, j_eq, j_no, j_nk, ltd, bnd]
theorem m_letter {B : Brd} {G : Gam} {N : Int → Int → List Int} {s : ST} (h : MA B G s) (hN : NR B N s) {k w j : Int} (k1 : -2147483648 ≤ k) (k2 : k ≤ 2147483647) (w1 : -2147483648 ≤ w) (w2 : w ≤ 2147483647) (j1 : -2147483648 ≤ j) (j2 : j ≤ 2147483647) : f_X10_letter (Int32.ofInt k) (Int32.ofInt w) (Int32.ofInt j) s = some (Int32.ofInt (aLet B N k w j), s) := by
  have hB := h.1
  have hK5 : bK B ≤ 5 := hB.1.1.2.2.2.2.2.1
  have hK0 : 0 ≤ bK B := hB.1.1.2.2.2.2.1
  have hM8 : bM B ≤ 8 := hB.1.1.2.2.2.2.2.2.2.1
  have hM0 : 0 ≤ bM B := hB.1.1.2.2.2.2.2.2.1
  have hF6 : bF B ≤ 6 := hB.1.1.2.2.2.2.2.2.2.2.2
  have hF0 : 0 ≤ bF B := hB.1.1.2.2.2.2.2.2.2.2.1
  have hn := h.2.2.1.1
  unfold MBn at hn
  have hik := m_isIn (s := s) (v := k) (a := 0) (b := 2) (by omega) (by omega) (by omega) (by omega) (by omega) (by omega)
  unfold aLet
  by_cases e1 : 0 ≤ k ∧ k ≤ 2
  · rw [decide_eq_true e1] at hik
    have hcn : s.1 101 (3 + k).toNat = Int32.ofInt (cnt B k) ∧ 0 ≤ cnt B k ∧ cnt B k ≤ 8 := by
      have : k = 0 ∨ k = 1 ∨ k = 2 := by omega
      rcases this with rfl | rfl | rfl
      · exact ⟨hn.1, by show 0 ≤ bK B; omega, by show bK B ≤ 8; omega⟩
      · exact ⟨hn.2.1, by show 0 ≤ bM B; omega, by show bM B ≤ 8; omega⟩
      · exact ⟨hn.2.2.1, by show 0 ≤ bF B; omega, by show bF B ≤ 8; omega⟩
    obtain ⟨hc, hc0, hc8⟩ := hcn
    have hiw := m_isIn (s := s) (v := w) (a := 0) (b := cnt B k - 1) (by omega) (by omega) (by omega) (by omega) (by omega) (by omega)
    have hij := m_isIn (s := s) (v := j) (a := 0) (b := 5) (by omega) (by omega) (by omega) (by omega) (by omega) (by omega)
    by_cases e2 : 0 ≤ w ∧ w ≤ cnt B k - 1
    · rw [decide_eq_true e2] at hiw
      by_cases e3 : 0 ≤ j ∧ j ≤ 5
      · rw [decide_eq_true e3] at hij
        rw [if_pos (by omega)]
        obtain ⟨hv, hl⟩ := hN k w e1.1 e1.2 (by omega) (by omega)
        generalize N k w = l at *
        have hrv : l.reverse.reverse = l := List.reverse_reverse l
        have hll : l.reverse.length = l.length := List.length_reverse
        have hmem : ∀ v ∈ l.reverse, 1 ≤ v ∧ v ≤ 26 := fun v hv => hl.2.2 v (List.mem_reverse.mp hv)
        have ha := m_let_a f_X10_letter_j90 (Int32.ofInt j) (Int64.ofInt (b27 l)) s l.reverse fuel 0 (by rw [hll]; exact hl.2.1) hmem (by rw [hll]; have := hl.2.1; unfold fuel; omega) (by omega) (by rw [hll]; have := hl.2.1; omega)
        rw [hrv, hll, Int.zero_add] at ha
        have hl1 := hl.1
        have hl6 := hl.2.1
        have hj : f_X10_letter_j90 (Int32.ofInt j) (Int64.ofInt (b27 l)) (Int32.ofInt (l.length : Int)) s = some (Int32.ofInt (l.getD j.toNat 0), s) := by
          by_cases e4 : j < (l.length : Int)
          · have hb := m_let_b f_X10_letter_j124 s e3.1 e3.2 (l.length - 1 - j.toNat) l.reverse fuel (by rw [hll]; omega) (by rw [hll]; exact hl6) hmem (by unfold fuel; omega)
            rw [hrv, show (((l.length - 1 - j.toNat : Nat) : Int) + j) = (l.length : Int) - 1 by omega] at hb
            have hlt : l.length - 1 - j.toNat < l.reverse.length := by rw [hll]; omega
            have hdr : l.reverse.drop (l.length - 1 - j.toNat) = l.reverse[l.length - 1 - j.toNat] :: l.reverse.drop (l.length - 1 - j.toNat + 1) := List.drop_eq_getElem_cons hlt
            have hget : l.reverse[l.length - 1 - j.toNat] = l.getD j.toNat 0 := by
              rw [List.getElem_reverse, List.getD_eq_getElem?_getD, List.getElem?_eq_getElem (by omega)]
              show l[l.length - 1 - (l.length - 1 - j.toNat)] = l[j.toNat]
              congr 1
              omega
            rw [hdr, hget] at hb
            have hmg : 1 ≤ l.getD j.toNat 0 ∧ l.getD j.toNat 0 ≤ 26 := by
              rw [← hget]
              exact hmem _ (List.getElem_mem hlt)
            have hbd := b27_b (l.reverse.drop (l.length - 1 - j.toNat + 1)) 6 (by rw [List.length_drop, hll]; omega) (fun v hv => hmem v (List.mem_of_mem_drop hv))
            have hbd2 : b27 (l.reverse.drop (l.length - 1 - j.toNat + 1)).reverse < 387420489 := hbd.2.1
            rw [b27_cons] at hb
            generalize b27 (l.reverse.drop (l.length - 1 - j.toNat + 1)).reverse = c at *
            generalize l.getD j.toNat 0 = u at *
            have hd := l_dv (a := 27 * c + u) (by omega) (by omega)
            rw [show (27 * c + u) / 27 = c by omega] at hd
            have hfin : f_X10_letter_j124 (Int64.ofInt (27 * c + u)) s = some (Int32.ofInt u, s) := by
              have e : 27 * c + u - c * 27 = u := by omega
              simp (disch := omega) only [f_X10_letter_j124, hd, l_mul, l_sub, e, l_j]
            rw [← hfin, ← hb]
            simp (disch := omega) only [f_X10_letter_j90, n_i8, n_i16, n_0, n_31, n_add, n_sub, n_mul, n_neg, n_div, n_rem, n_le_t, n_le_f, n_lt_t, n_lt_f, n_eq_t, n_eq_f, n_cl, n_gd, n_gdt, n_nz, Int.reduceToNat, Int.reduceAdd, Int.reduceSub, Int.reduceMul, Int.reduceNeg, Int.reduceLT, Int.reduceLE, Int.reduceEq, Int.reduceDiv, Int.reduceMod, Nat.reduceAdd, Nat.reduceMul, ↓reduceIte, u_eq, u_no, u_nk, u_ek, u_2, u_3, j_1, j_3, j_eq, j_no, j_nk, ltd, bnd]
          · rw [show l.getD j.toNat 0 = 0 by rw [List.getD_eq_getElem?_getD, List.getElem?_eq_none (by omega)]; rfl]
            simp (disch := omega) only [f_X10_letter_j90, n_i8, n_i16, n_0, n_31, n_add, n_sub, n_mul, n_neg, n_div, n_rem, n_le_t, n_le_f, n_lt_t, n_lt_f, n_eq_t, n_eq_f, n_cl, n_gd, n_gdt, n_nz, Int.reduceToNat, Int.reduceAdd, Int.reduceSub, Int.reduceMul, Int.reduceNeg, Int.reduceLT, Int.reduceLE, Int.reduceEq, Int.reduceDiv, Int.reduceMod, Nat.reduceAdd, Nat.reduceMul, ↓reduceIte, u_eq, u_no, u_nk, u_ek, u_2, u_3, j_1, j_3, j_eq, j_no, j_nk, ltd, bnd]
        simp (disch := omega) only [f_X10_letter, hik, hc, hiw, hij, hv, ha, hj, bI_t, n_i8, n_i16, n_0, n_31, n_add, n_sub, n_mul, n_neg, n_div, n_rem, n_le_t, n_le_f, n_lt_t, n_lt_f, n_eq_t, n_eq_f, n_cl, n_gd, n_gdt, n_nz, Int.reduceToNat, Int.reduceAdd, Int.reduceSub, Int.reduceMul, Int.reduceNeg, Int.reduceLT, Int.reduceLE, Int.reduceEq, Int.reduceDiv, Int.reduceMod, Nat.reduceAdd, Nat.reduceMul, ↓reduceIte, l_0, l_1, l_00, l_i, l_j, l_add, l_sub, l_mul, l_gt, l_ceq, l_clt, l_nz, u_eq, u_no, u_nk, u_ek, u_2, u_3, j_1, j_3, j_eq, j_no, j_nk, ltd, bnd]
      · rw [decide_eq_false e3] at hij
        rw [if_neg (by omega)]
        simp (disch := omega) only [f_X10_letter, hik, hc, hiw, hij, bI_t, bI_f, n_i8, n_i16, n_0, n_31, n_add, n_sub, n_mul, n_neg, n_div, n_rem, n_le_t, n_le_f, n_lt_t, n_lt_f, n_eq_t, n_eq_f, n_cl, n_gd, n_gdt, n_nz, Int.reduceToNat, Int.reduceAdd, Int.reduceSub, Int.reduceMul, Int.reduceNeg, Int.reduceLT, Int.reduceLE, Int.reduceEq, Int.reduceDiv, Int.reduceMod, Nat.reduceAdd, Nat.reduceMul, ↓reduceIte, l_0, l_1, l_00, l_i, l_j, l_add, l_sub, l_mul, l_gt, l_ceq, l_clt, l_nz, u_eq, u_no, u_nk, u_ek, u_2, u_3, j_1, j_3, j_eq, j_no, j_nk, ltd, bnd]
    · rw [decide_eq_false e2] at hiw
      rw [if_neg (by omega)]
      simp (disch := omega) only [f_X10_letter, hik, hc, hiw, bI_t, bI_f, n_i8, n_i16, n_0, n_31, n_add, n_sub, n_mul, n_neg, n_div, n_rem, n_le_t, n_le_f, n_lt_t, n_lt_f, n_eq_t, n_eq_f, n_cl, n_gd, n_gdt, n_nz, Int.reduceToNat, Int.reduceAdd, Int.reduceSub, Int.reduceMul, Int.reduceNeg, Int.reduceLT, Int.reduceLE, Int.reduceEq, Int.reduceDiv, Int.reduceMod, Nat.reduceAdd, Nat.reduceMul, ↓reduceIte, l_0, l_1, l_00, l_i, l_j, l_add, l_sub, l_mul, l_gt, l_ceq, l_clt, l_nz, u_eq, u_no, u_nk, u_ek, u_2, u_3, j_1, j_3, j_eq, j_no, j_nk, ltd, bnd]
  · rw [decide_eq_false e1] at hik
    rw [if_neg (by omega)]
    simp (disch := omega) only [f_X10_letter, hik, bI_f, n_i8, n_i16, n_0, n_31, n_add, n_sub, n_mul, n_neg, n_div, n_rem, n_le_t, n_le_f, n_lt_t, n_lt_f, n_eq_t, n_eq_f, n_cl, n_gd, n_gdt, n_nz, Int.reduceToNat, Int.reduceAdd, Int.reduceSub, Int.reduceMul, Int.reduceNeg, Int.reduceLT, Int.reduceLE, Int.reduceEq, Int.reduceDiv, Int.reduceMod, Nat.reduceAdd, Nat.reduceMul, ↓reduceIte, l_0, l_1, l_00, l_i, l_j, l_add, l_sub, l_mul, l_gt, l_ceq, l_clt, l_nz, u_eq, u_no, u_nk, u_ek, u_2, u_3, j_1, j_3, j_eq, j_no, j_nk, ltd, bnd]
theorem k_letter (i : Nat) : ok_letter Inv i := by
  intro s a1 a2 a3 hI
  obtain ⟨B, G, brd, K, U, rn, rf, rv, x, T, n, L, N, p, hR, hC, hb, hp⟩ := hI
  obtain ⟨z, rfl, z1, z2⟩ := i32 a1
  obtain ⟨w, rfl, w1, w2⟩ := i32 a2
  obtain ⟨v, rfl, v1, v2⟩ := i32 a3
  have hNR := hR.2.2.2.2.2.2.2.1
  exact ⟨_, s, s, c_letter hC.1 hC.2.2.2.2.2.2.2.1 (fun k w k0 k1 w0 w1 => (hNR k w k0 k1 w0 w1).2) z1 z2 w1 w2 v1 v2, m_letter hR.1.1.1 hNR z1 z2 w1 w2 v1 v2, inv_q hR hC hb hp hC.1 (XF.rf s) (QF.rf s)⟩
