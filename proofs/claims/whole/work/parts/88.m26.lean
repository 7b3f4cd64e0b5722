/-! L3: the reference's tape, images -/
def TP (T : Int → Int) (n : Int) (s : ST) : Prop := s.1 65 1 = Int32.ofInt n ∧ (0 ≤ n ∧ n ≤ 1600) ∧ ∀ j : Int, 0 ≤ j → j < n → s.1 66 j.toNat = Int32.ofInt (T j) ∧ 0 ≤ T j ∧ T j ≤ 255
theorem TP_fr {T : Int → Int} {n : Int} {s s' : ST} (h : TP T n s) (h1 : s'.1 65 1 = s.1 65 1) (h2 : ∀ k : Nat, s'.1 66 k = s.1 66 k) : TP T n s' := ⟨h1.trans h.1, h.2.1, fun j j1 j2 => ⟨(h2 _).trans (h.2.2 j j1 j2).1, (h.2.2 j j1 j2).2⟩⟩
def bt (w : Int32) (k : Int) : Int32 := (w >>> (Int32.ofInt (24 - 8 * k) &&& Int32.ofInt 31)) &&& Int32.ofInt 255
theorem and255 (x : Int32) : 0 ≤ (x &&& Int32.ofInt 255).toInt ∧ (x &&& Int32.ofInt 255).toInt ≤ 255 := by
  have h1 : (x &&& Int32.ofInt 255).toInt = ((x &&& Int32.ofInt 255).toBitVec.toNat : Int) := by
    show (x &&& Int32.ofInt 255).toBitVec.toInt = _
    rw [BitVec.toInt_eq_toNat_of_msb]
    show (x.toBitVec &&& 255#32).msb = false
    rw [BitVec.msb_and]
    simp
    intro _; rfl
  have h2 : (x &&& Int32.ofInt 255).toBitVec.toNat ≤ 255 := by
    show (x.toBitVec &&& 255#32).toNat ≤ 255
    rw [BitVec.toNat_and]
    exact Nat.and_le_right
  omega
def wsel (a b c d e : Int32) (q : Int) : Int32 := if q < 4 then a else if q < 8 then b else if q < 12 then c else if q < 16 then d else e
def fedT (T : Int → Int) (n : Int) (a b c d e : Int32) : Int → Int := fun j => if j < n then T j else (bt (wsel a b c d e (j - n)) ((j - n) % 4)).toInt
theorem m_feed_L {T : Int → Int} {n : Int} (n0 : 0 ≤ n) (n1 : n + 20 ≤ 1600) (a b c d e : Int32) (K : ST → Option (Int32 × ST)) : ∀ (m F : Nat) (i : Int) (s : ST), TP (fedT T n a b c d e) (n + i) s → 0 ≤ i → (m : Int) = 20 - i → m < F → ∃ s', TP (fedT T n a b c d e) (n + 20) s' ∧ (∀ o k : Nat, ¬ o = 66 → ¬ (o = 65 ∧ k = 1) → s'.1 o k = s.1 o k) ∧ s'.2 = s.2 ∧ f_X10_feed_L28 K F a b c d e (Int32.ofInt i) s = K s' := by
  intro m
  induction m with
  | zero =>
    intro F i s h h0 hn hF
    obtain ⟨F, rfl⟩ : ∃ F', F = F' + 1 := ⟨F - 1, by omega⟩
    have : i = 20 := by omega
    subst this
    refine ⟨s, h, fun _ _ _ _ => rfl, rfl, ?_⟩
    simp (disch := omega) only [f_X10_feed_L28, n_i8, n_i16, n_0, n_31, n_add, n_sub, n_mul, n_neg, n_div, n_rem, n_le_t, n_le_f, n_lt_t, n_lt_f, n_eq_t, n_eq_f, n_cl, n_gd, n_gdt, n_nz, Int.reduceToNat, Int.reduceAdd, Int.reduceSub, Int.reduceMul, Int.reduceNeg, Int.reduceLT, Int.reduceLE, Int.reduceEq, Int.reduceDiv, Int.reduceMod, Nat.reduceAdd, Nat.reduceMul, ↓reduceIte]
  | succ m ih =>
    intro F i s h h0 hn hF
    obtain ⟨F, rfl⟩ : ∃ F', F = F' + 1 := ⟨F - 1, by omega⟩
    obtain ⟨h1, h2, h3⟩ := h
    have hb : bt (wsel a b c d e i) (i % 4) = Int32.ofInt (fedT T n a b c d e (n + i)) := by
      unfold fedT
      rw [if_neg (by omega), show n + i - n = i by omega, Int32.ofInt_toInt]
    have hbr : 0 ≤ fedT T n a b c d e (n + i) ∧ fedT T n a b c d e (n + i) ≤ 255 := by
      unfold fedT
      rw [if_neg (by omega)]
      exact and255 _
    have hR : i - i / 4 * 4 = i % 4 := n_rem _ _
    have e8 : 8 * (3 - i % 4) = 24 - 8 * (i % 4) := by omega
    have hTP : TP (fedT T n a b c d e) (n + (i + 1)) (uI (uI s 66 (n + i).toNat (bt (wsel a b c d e i) (i % 4))) 65 1 (Int32.ofInt (n + i + 1))) := by
      refine ⟨by rw [u_eq, show n + (i + 1) = n + i + 1 by omega], by omega, fun j j1 j2 => ?_⟩
      rw [u_no (by omega)]
      by_cases e : j = n + i
      · subst e
        rw [u_eq, hb]
        exact ⟨rfl, hbr⟩
      · rw [u_nk (by omega)]
        exact h3 j j1 (by omega)
    obtain ⟨s', q1, q2, q3, q4⟩ := ih F (i + 1) _ hTP (by omega) (by omega) (by omega)
    refine ⟨s', q1, fun o k x y => (q2 o k x y).trans (by (simp only [ua, ja, u_2, u_3, j_1, j_3]; (repeat' split) <;> first | rfl | (exfalso; omega))), q3, ?_⟩
    rw [← q4]
    unfold bt wsel
    by_cases e1 : i < 4
    · rw [if_pos e1]
      simp (disch := omega) only [f_X10_feed_L28, f_X10_feed_j81, h1, hR, e8, n_i8, n_i16, n_0, n_31, n_add, n_sub, n_mul, n_neg, n_div, n_rem, n_le_t, n_le_f, n_lt_t, n_lt_f, n_eq_t, n_eq_f, n_cl, n_gd, n_gdt, n_nz, Int.reduceToNat, Int.reduceAdd, Int.reduceSub, Int.reduceMul, Int.reduceNeg, Int.reduceLT, Int.reduceLE, Int.reduceEq, Int.reduceDiv, Int.reduceMod, Nat.reduceAdd, Nat.reduceMul, ↓reduceIte, u_eq, u_no, u_nk, u_ek, u_2, u_3, j_1, j_3, j_eq, j_no, j_nk, ltd, bnd]
    rw [if_neg e1]
    by_cases e2 : i < 8
    · rw [if_pos e2]
      simp (disch := omega) only [f_X10_feed_L28, f_X10_feed_j81, h1, hR, e8, n_i8, n_i16, n_0, n_31, n_add, n_sub, n_mul, n_neg, n_div, n_rem, n_le_t, n_le_f, n_lt_t, n_lt_f, n_eq_t, n_eq_f, n_cl, n_gd, n_gdt, n_nz, Int.reduceToNat, Int.reduceAdd, Int.reduceSub, Int.reduceMul, Int.reduceNeg, Int.reduceLT, Int.reduceLE, Int.reduceEq, Int.reduceDiv, Int.reduceMod, Nat.reduceAdd, Nat.reduceMul, ↓reduceIte, u_eq, u_no, u_nk, u_ek, u_2, u_3, j_1, j_3, j_eq, j_no, j_nk, ltd, bnd]
    rw [if_neg e2]
    by_cases e3 : i < 12
    · rw [if_pos e3]
      simp (disch := omega) only [f_X10_feed_L28, f_X10_feed_j81, h1, hR, e8, n_i8, n_i16, n_0, n_31, n_add, n_sub, n_mul, n_neg, n_div, n_rem, n_le_t, n_le_f, n_lt_t, n_lt_f, n_eq_t, n_eq_f, n_cl, n_gd, n_gdt, n_nz, Int.reduceToNat, Int.reduceAdd, Int.reduceSub, Int.reduceMul, Int.reduceNeg, Int.reduceLT, Int.reduceLE, Int.reduceEq, Int.reduceDiv, Int.reduceMod, Nat.reduceAdd, Nat.reduceMul, ↓reduceIte, u_eq, u_no, u_nk, u_ek, u_2, u_3, j_1, j_3, j_eq, j_no, j_nk, ltd, bnd]
    rw [if_neg e3]
    by_cases e4 : i < 16
    · rw [if_pos e4]
      simp (disch := omega) only [f_X10_feed_L28, f_X10_feed_j81, h1, hR, e8, n_i8, n_i16, n_0, n_31, n_add, n_sub, n_mul, n_neg, n_div, n_rem, n_le_t, n_le_f, n_lt_t, n_lt_f, n_eq_t, n_eq_f, n_cl, n_gd, n_gdt, n_nz, Int.reduceToNat, Int.reduceAdd, Int.reduceSub, Int.reduceMul, Int.reduceNeg, Int.reduceLT, Int.reduceLE, Int.reduceEq, Int.reduceDiv, Int.reduceMod, Nat.reduceAdd, Nat.reduceMul, ↓reduceIte, u_eq, u_no, u_nk, u_ek, u_2, u_3, j_1, j_3, j_eq, j_no, j_nk, ltd, bnd]
    rw [if_neg e4]
    simp (disch := omega) only [f_X10_feed_L28, f_X10_feed_j81, h1, hR, e8, n_i8, n_i16, n_0, n_31, n_add, n_sub, n_mul, n_neg, n_div, n_rem, n_le_t, n_le_f, n_lt_t, n_lt_f, n_eq_t, n_eq_f, n_cl, n_gd, n_gdt, n_nz, Int.reduceToNat, Int.reduceAdd, Int.reduceSub, Int.reduceMul, Int.reduceNeg, Int.reduceLT, Int.reduceLE, Int.reduceEq, Int.reduceDiv, Int.reduceMod, Nat.reduceAdd, Nat.reduceMul, ↓reduceIte, u_eq, u_no, u_nk, u_ek, u_2, u_3, j_1, j_3, j_eq, j_no, j_nk, ltd, bnd]
/-- what the tape's calls may change -/
def TF (s s' : ST) : Prop := (∀ o k : Nat, ¬ o = 66 → ¬ (o = 65 ∧ k = 1) → s'.1 o k = s.1 o k) ∧ s'.2 = s.2
theorem m_feed {T : Int → Int} {n : Int} {s : ST} (h : TP T n s) (a b c d e : Int32) : (n + 20 ≤ 1600 → ∃ s', f_X10_feed a b c d e s = some (Int32.ofInt (n + 20), s') ∧ TP (fedT T n a b c d e) (n + 20) s' ∧ TF s s') ∧ (¬ n + 20 ≤ 1600 → f_X10_feed a b c d e s = some (Int32.ofInt (-1), rfS s 0)) := by
  obtain ⟨h1, h2, h3⟩ := h
  constructor
  · intro c1
    have hTP : TP (fedT T n a b c d e) (n + 0) s := by
      refine ⟨by rw [Int.add_zero]; exact h1, by omega, fun j j1 j2 => ?_⟩
      unfold fedT
      rw [if_pos (by omega)]
      exact h3 j j1 (by omega)
    obtain ⟨s', q1, q2, q3, q4⟩ := m_feed_L h2.1 c1 a b c d e f_X10_feed_j124 20 fuel 0 s hTP (by omega) (by omega) (by unfold fuel; omega)
    refine ⟨s', ?_, q1, q2, q3⟩
    have e1 := q1.1
    simp (disch := omega) only [f_X10_feed, f_X10_feed_j124, h1, q4, e1, n_i8, n_i16, n_0, n_31, n_add, n_sub, n_mul, n_neg, n_div, n_rem, n_le_t, n_le_f, n_lt_t, n_lt_f, n_eq_t, n_eq_f, n_cl, n_gd, n_gdt, n_nz, Int.reduceToNat, Int.reduceAdd, Int.reduceSub, Int.reduceMul, Int.reduceNeg, Int.reduceLT, Int.reduceLE, Int.reduceEq, Int.reduceDiv, Int.reduceMod, Nat.reduceAdd, Nat.reduceMul, ↓reduceIte, u_eq, u_no, u_nk, u_ek, u_2, u_3, j_1, j_3, j_eq, j_no, j_nk, ltd, bnd]
  · intro c1
    unfold rfS
    simp (disch := omega) only [f_X10_feed, h1, n_i8, n_i16, n_0, n_31, n_add, n_sub, n_mul, n_neg, n_div, n_rem, n_le_t, n_le_f, n_lt_t, n_lt_f, n_eq_t, n_eq_f, n_cl, n_gd, n_gdt, n_nz, Int.reduceToNat, Int.reduceAdd, Int.reduceSub, Int.reduceMul, Int.reduceNeg, Int.reduceLT, Int.reduceLE, Int.reduceEq, Int.reduceDiv, Int.reduceMod, Nat.reduceAdd, Nat.reduceMul, ↓reduceIte, u_eq, u_no, u_nk, u_ek, u_2, u_3, j_1, j_3, j_eq, j_no, j_nk, ltd, bnd, Int.toNat_zero]
theorem m_end {T : Int → Int} {n : Int} {s : ST} (h : TP T n s) {z : Int} (z1 : -2147483648 ≤ z) (z2 : z ≤ 2147483647) : (0 ≤ z ∧ z ≤ n → f_X10_end (Int32.ofInt z) s = some (Int32.ofInt 1, uI s 65 1 (Int32.ofInt z)) ∧ TP T z (uI s 65 1 (Int32.ofInt z))) ∧ (¬ (0 ≤ z ∧ z ≤ n) → f_X10_end (Int32.ofInt z) s = some (Int32.ofInt 0, rfS s 0)) := by
  obtain ⟨h1, h2, h3⟩ := h
  constructor
  · intro c
    refine ⟨?_, ⟨u_eq _ _ _ _, by omega, fun j j1 j2 => ?_⟩⟩
    · simp (disch := omega) only [f_X10_end, h1, n_i8, n_i16, n_0, n_31, n_add, n_sub, n_mul, n_neg, n_div, n_rem, n_le_t, n_le_f, n_lt_t, n_lt_f, n_eq_t, n_eq_f, n_cl, n_gd, n_gdt, n_nz, Int.reduceToNat, Int.reduceAdd, Int.reduceSub, Int.reduceMul, Int.reduceNeg, Int.reduceLT, Int.reduceLE, Int.reduceEq, Int.reduceDiv, Int.reduceMod, Nat.reduceAdd, Nat.reduceMul, ↓reduceIte, u_eq, u_no, u_nk, u_ek, u_2, u_3, j_1, j_3, j_eq, j_no, j_nk, ltd, bnd]
    · rw [u_no (by omega)]; exact h3 j j1 (by omega)
  · intro c
    unfold rfS
    by_cases e : z < 0
    · simp (disch := omega) only [f_X10_end, f_X10_end_j12, h1, n_i8, n_i16, n_0, n_31, n_add, n_sub, n_mul, n_neg, n_div, n_rem, n_le_t, n_le_f, n_lt_t, n_lt_f, n_eq_t, n_eq_f, n_cl, n_gd, n_gdt, n_nz, Int.reduceToNat, Int.reduceAdd, Int.reduceSub, Int.reduceMul, Int.reduceNeg, Int.reduceLT, Int.reduceLE, Int.reduceEq, Int.reduceDiv, Int.reduceMod, Nat.reduceAdd, Nat.reduceMul, ↓reduceIte, u_eq, u_no, u_nk, u_ek, u_2, u_3, j_1, j_3, j_eq, j_no, j_nk, ltd, bnd, Int.toNat_zero]
    · simp (disch := omega) only [f_X10_end, f_X10_end_j12, h1, n_i8, n_i16, n_0, n_31, n_add, n_sub, n_mul, n_neg, n_div, n_rem, n_le_t, n_le_f, n_lt_t, n_lt_f, n_eq_t, n_eq_f, n_cl, n_gd, n_gdt, n_nz, Int.reduceToNat, Int.reduceAdd, Int.reduceSub, Int.reduceMul, Int.reduceNeg, Int.reduceLT, Int.reduceLE, Int.reduceEq, Int.reduceDiv, Int.reduceMod, Nat.reduceAdd, Nat.reduceMul, ↓reduceIte, u_eq, u_no, u_nk, u_ek, u_2, u_3, j_1, j_3, j_eq, j_no, j_nk, ltd, bnd, Int.toNat_zero]
def aFault (f p : Int32) (w : Int) : Int32 := if w = 0 then f else if w = 1 then p else Int32.ofInt (-1)
theorem m_fault {s : ST} {w : Int} (w1 : -2147483648 ≤ w) (w2 : w ≤ 2147483647) : f_X10_fault (Int32.ofInt w) s = some (aFault (s.1 65 7) (s.1 65 8) w, s) := by
  unfold aFault
  by_cases e0 : w = 0
  · rw [if_pos e0]; simp (disch := omega) only [f_X10_fault, n_i8, n_i16, n_0, n_31, n_add, n_sub, n_mul, n_neg, n_div, n_rem, n_le_t, n_le_f, n_lt_t, n_lt_f, n_eq_t, n_eq_f, n_cl, n_gd, n_gdt, n_nz, Int.reduceToNat, Int.reduceAdd, Int.reduceSub, Int.reduceMul, Int.reduceNeg, Int.reduceLT, Int.reduceLE, Int.reduceEq, Int.reduceDiv, Int.reduceMod, Nat.reduceAdd, Nat.reduceMul, ↓reduceIte]
  · rw [if_neg e0]
    by_cases e1 : w = 1
    · rw [if_pos e1]; simp (disch := omega) only [f_X10_fault, n_i8, n_i16, n_0, n_31, n_add, n_sub, n_mul, n_neg, n_div, n_rem, n_le_t, n_le_f, n_lt_t, n_lt_f, n_eq_t, n_eq_f, n_cl, n_gd, n_gdt, n_nz, Int.reduceToNat, Int.reduceAdd, Int.reduceSub, Int.reduceMul, Int.reduceNeg, Int.reduceLT, Int.reduceLE, Int.reduceEq, Int.reduceDiv, Int.reduceMod, Nat.reduceAdd, Nat.reduceMul, ↓reduceIte]
    · rw [if_neg e1]; simp (disch := omega) only [f_X10_fault, n_i8, n_i16, n_0, n_31, n_add, n_sub, n_mul, n_neg, n_div, n_rem, n_le_t, n_le_f, n_lt_t, n_lt_f, n_eq_t, n_eq_f, n_cl, n_gd, n_gdt, n_nz, Int.reduceToNat, Int.reduceAdd, Int.reduceSub, Int.reduceMul, Int.reduceNeg, Int.reduceLT, Int.reduceLE, Int.reduceEq, Int.reduceDiv, Int.reduceMod, Nat.reduceAdd, Nat.reduceMul, ↓reduceIte]
theorem m_status {s : ST} {w : Int} (w1 : -2147483648 ≤ w) (w2 : w ≤ 2147483647) : f_X10_status (Int32.ofInt w) s = some (if 0 ≤ w ∧ w ≤ 5 then s.1 67 w.toNat else Int32.ofInt (-1), s) := by
  have hi := m_isIn (s := s) (v := w) (a := 0) (b := 5) (by omega) (by omega) (by omega) (by omega) (by omega) (by omega)
  by_cases e : 0 ≤ w ∧ w ≤ 5
  · rw [decide_eq_true e] at hi
    rw [if_pos e]
    simp (disch := omega) only [f_X10_status, hi, bI_t, n_i8, n_i16, n_0, n_31, n_add, n_sub, n_mul, n_neg, n_div, n_rem, n_le_t, n_le_f, n_lt_t, n_lt_f, n_eq_t, n_eq_f, n_cl, n_gd, n_gdt, n_nz, Int.reduceToNat, Int.reduceAdd, Int.reduceSub, Int.reduceMul, Int.reduceNeg, Int.reduceLT, Int.reduceLE, Int.reduceEq, Int.reduceDiv, Int.reduceMod, Nat.reduceAdd, Nat.reduceMul, ↓reduceIte, l_0, l_1, l_00, l_i, l_j, l_add, l_sub, l_mul, l_gt, l_ceq, l_clt, l_nz, u_eq, u_no, u_nk, u_ek, u_2, u_3, j_1, j_3, j_eq, j_no, j_nk, ltd, bnd]
  · rw [decide_eq_false e] at hi
    rw [if_neg e]
    simp (disch := omega) only [f_X10_status, hi, bI_f, n_i8, n_i16, n_0, n_31, n_add, n_sub, n_mul, n_neg, n_div, n_rem, n_le_t, n_le_f, n_lt_t, n_lt_f, n_eq_t, n_eq_f, n_cl, n_gd, n_gdt, n_nz, Int.reduceToNat, Int.reduceAdd, Int.reduceSub, Int.reduceMul, Int.reduceNeg, Int.reduceLT, Int.reduceLE, Int.reduceEq, Int.reduceDiv, Int.reduceMod, Nat.reduceAdd, Nat.reduceMul, ↓reduceIte, l_0, l_1, l_00, l_i, l_j, l_add, l_sub, l_mul, l_gt, l_ceq, l_clt, l_nz, u_eq, u_no, u_nk, u_ek, u_2, u_3, j_1, j_3, j_eq, j_no, j_nk, ltd, bnd]
/-! images -/
def WR (L : List Int) (s : ST) : Prop := s.1 65 121 = Int32.ofInt (L.length : Int) ∧ ∀ j : Nat, j < L.length → s.1 149 j = Int32.ofInt (L.getD j 0)
theorem m_octet {L : List Int} {s : ST} (h : WR L s) (hl : L.length ≤ 32) {k : Int} (k1 : -2147483648 ≤ k) (k2 : k ≤ 2147483647) : f_X10_octet (Int32.ofInt k) s = some (Int32.ofInt (if 0 ≤ k ∧ k < (L.length : Int) then L.getD k.toNat 0 else -1), s) := by
  obtain ⟨h1, h2⟩ := h
  by_cases e : 0 ≤ k ∧ k < (L.length : Int)
  · rw [if_pos e]
    have := h2 k.toNat (by omega)
    simp (disch := omega) only [f_X10_octet, h1, this, n_i8, n_i16, n_0, n_31, n_add, n_sub, n_mul, n_neg, n_div, n_rem, n_le_t, n_le_f, n_lt_t, n_lt_f, n_eq_t, n_eq_f, n_cl, n_gd, n_gdt, n_nz, Int.reduceToNat, Int.reduceAdd, Int.reduceSub, Int.reduceMul, Int.reduceNeg, Int.reduceLT, Int.reduceLE, Int.reduceEq, Int.reduceDiv, Int.reduceMod, Nat.reduceAdd, Nat.reduceMul, ↓reduceIte, u_eq, u_no, u_nk, u_ek, u_2, u_3, j_1, j_3, j_eq, j_no, j_nk, ltd, bnd]
  · rw [if_neg e]
    by_cases e1 : k < 0
    · simp (disch := omega) only [f_X10_octet, h1, n_i8, n_i16, n_0, n_31, n_add, n_sub, n_mul, n_neg, n_div, n_rem, n_le_t, n_le_f, n_lt_t, n_lt_f, n_eq_t, n_eq_f, n_cl, n_gd, n_gdt, n_nz, Int.reduceToNat, Int.reduceAdd, Int.reduceSub, Int.reduceMul, Int.reduceNeg, Int.reduceLT, Int.reduceLE, Int.reduceEq, Int.reduceDiv, Int.reduceMod, Nat.reduceAdd, Nat.reduceMul, ↓reduceIte, u_eq, u_no, u_nk, u_ek, u_2, u_3, j_1, j_3, j_eq, j_no, j_nk, ltd, bnd]
    · simp (disch := omega) only [f_X10_octet, h1, n_i8, n_i16, n_0, n_31, n_add, n_sub, n_mul, n_neg, n_div, n_rem, n_le_t, n_le_f, n_lt_t, n_lt_f, n_eq_t, n_eq_f, n_cl, n_gd, n_gdt, n_nz, Int.reduceToNat, Int.reduceAdd, Int.reduceSub, Int.reduceMul, Int.reduceNeg, Int.reduceLT, Int.reduceLE, Int.reduceEq, Int.reduceDiv, Int.reduceMod, Nat.reduceAdd, Nat.reduceMul, ↓reduceIte, u_eq, u_no, u_nk, u_ek, u_2, u_3, j_1, j_3, j_eq, j_no, j_nk, ltd, bnd]
def WF (s s' : ST) : Prop := (∀ o k : Nat, ¬ o = 149 → ¬ (o = 65 ∧ k = 121) → s'.1 o k = s.1 o k) ∧ s'.2 = s.2
theorem WF.rf (s : ST) : WF s s := ⟨fun _ _ _ _ => rfl, rfl⟩
theorem WF.tr {s t u : ST} (h1 : WF s t) (h2 : WF t u) : WF s u := ⟨fun o k a b => (h2.1 o k a b).trans (h1.1 o k a b), h2.2.trans h1.2⟩
theorem MA_WF {B : Brd} {G : Gam} {s s' : ST} (h : MA B G s) (hf : WF s s') : MA B G s' := MA_fr h (fun o k hk => hf.1 o k (by omega) (by omega))
theorem m_writes {L : List Int} {s : ST} (h : WR L s) (hl : L.length < 32) (v : Int) : ∃ s', f_X10_writes (Int32.ofInt v) s = some s' ∧ WR (L ++ [v]) s' ∧ WF s s' := by
  obtain ⟨h1, h2⟩ := h
  refine ⟨uI (uI s 149 L.length (Int32.ofInt v)) 65 121 (Int32.ofInt ((L.length : Int) + 1)), ?_, ⟨?_, fun j hj => ?_⟩, ⟨fun o k a b => by (simp only [ua, ja, u_2, u_3, j_1, j_3]; (repeat' split) <;> first | rfl | (exfalso; omega)), rfl⟩⟩
  · simp (disch := omega) only [f_X10_writes, h1, Int.toNat_natCast, n_i8, n_i16, n_0, n_31, n_add, n_sub, n_mul, n_neg, n_div, n_rem, n_le_t, n_le_f, n_lt_t, n_lt_f, n_eq_t, n_eq_f, n_cl, n_gd, n_gdt, n_nz, Int.reduceToNat, Int.reduceAdd, Int.reduceSub, Int.reduceMul, Int.reduceNeg, Int.reduceLT, Int.reduceLE, Int.reduceEq, Int.reduceDiv, Int.reduceMod, Nat.reduceAdd, Nat.reduceMul, ↓reduceIte, u_eq, u_no, u_nk, u_ek, u_2, u_3, j_1, j_3, j_eq, j_no, j_nk, ltd, bnd]
  · rw [u_eq, List.length_append, List.length_singleton]; rfl
  · rw [List.length_append, List.length_singleton] at hj
    rw [u_no (by omega)]
    by_cases e : j = L.length
    · subst e
      rw [u_eq, List.getD_eq_getElem?_getD, List.getElem?_append_right (by omega)]
      simp
    · rw [u_nk e, h2 j (by omega), List.getD_eq_getElem?_getD, List.getD_eq_getElem?_getD, List.getElem?_append_left (by omega)]
def b255 (v : Int) : Int := if v = -1 then 255 else v
def imM (G : Gam) (m : Int) : List Int := [b255 (gx G m), b255 (gy G m)]
def imF (G : Gam) (f : Int) : List Int := [gb G f / 256, gb G f % 256]
def mrk (L : List Int) : Int := L.foldl (fun c v => (3 * c + v) % 251) 59
def im0 (B : Brd) (G : Gam) : List Int := [gd_ G / 256, gd_ G % 256, gs G] ++ (mens B).flatMap (imM G) ++ (flds B).flatMap (imF G)
def img (B : Brd) (G : Gam) : List Int := im0 B G ++ [mrk (im0 B G)]
theorem m_image_m {B : Brd} {G : Gam} (K : ST → Option (Int32 × ST)) : ∀ (n F : Nat) (i : Int) (L : List Int) (s : ST), MA B G s → WR L s → 0 ≤ i → (n : Int) = bM B - i → 2 * n < F → (L.length : Int) + 2 * n ≤ 19 → ∃ s', WF s s' ∧ WR (L ++ (upto n i).flatMap (imM G)) s' ∧ f_X10_image_L45 K F (Int32.ofInt (2 * i)) s = K s' := by
  intro n
  induction n with
  | zero =>
    intro F i L s h hW h0 hn hF hl
    obtain ⟨F, rfl⟩ : ∃ F', F = F' + 1 := ⟨F - 1, by omega⟩
    have hM : bM B ≤ 8 := h.1.1.1.2.2.2.2.2.2.2.1; have hM0 : 0 ≤ bM B := h.1.1.1.2.2.2.2.2.2.1
    have hm := m_manMany h
    refine ⟨s, WF.rf s, by simp only [upto, List.flatMap_nil, List.append_nil]; exact hW, ?_⟩
    simp (disch := omega) only [f_X10_image_L45, hm, n_i8, n_i16, n_0, n_31, n_add, n_sub, n_mul, n_neg, n_div, n_rem, n_le_t, n_le_f, n_lt_t, n_lt_f, n_eq_t, n_eq_f, n_cl, n_gd, n_gdt, n_nz, Int.reduceToNat, Int.reduceAdd, Int.reduceSub, Int.reduceMul, Int.reduceNeg, Int.reduceLT, Int.reduceLE, Int.reduceEq, Int.reduceDiv, Int.reduceMod, Nat.reduceAdd, Nat.reduceMul, ↓reduceIte, u_eq, u_no, u_nk, u_ek, u_2, u_3, j_1, j_3, j_eq, j_no, j_nk, ltd, bnd]
  | succ n ih =>
    intro F i L s h hW h0 hn hF hl
    obtain ⟨F, rfl⟩ : ∃ F', F = F' + 2 := ⟨F - 2, by omega⟩
    have hM : bM B ≤ 8 := h.1.1.1.2.2.2.2.2.2.2.1; have hM0 : 0 ≤ bM B := h.1.1.1.2.2.2.2.2.2.1
    have hm := m_manMany h
    have hg := h.2.2.2.2.1 i h0 (by omega)
    have hgp := h.2.1.2.1 i h0 (by omega)
    have hWW : bW B ≤ 5 := h.1.1.1.2.1
    have hHH : bH B ≤ 5 := h.1.1.1.2.2.2.1
    have g1 : s.1 112 (2 + 2 * i).toNat = Int32.ofInt (gx G i) := hg.1
    obtain ⟨s1, q1, q2, q3⟩ := m_writes hW (by omega) (b255 (gx G i))
    have hA1 := MA_WF h q3
    have hm1 := m_manMany hA1
    have g2 : s1.1 112 (2 + (2 * i + 1)).toNat = Int32.ofInt (gy G i) := by
      have := (hA1.2.2.2.2.1 i h0 (by omega)).2
      rw [← this, show 2 + (2 * i + 1) = 2 + 2 * i + 1 by omega]
    obtain ⟨s2, r1, r2, r3⟩ := m_writes q2 (by rw [List.length_append, List.length_singleton]; omega) (b255 (gy G i))
    obtain ⟨s3, w1, w2, w3⟩ := ih F (i + 1) _ s2 (MA_WF hA1 r3) r2 (by omega) (by omega) (by omega) (by simp only [List.length_append, List.length_singleton]; omega)
    refine ⟨s3, (q3.tr r3).tr w1, ?_, ?_⟩
    · simp only [upto, List.flatMap_cons]
      have : L ++ [b255 (gx G i)] ++ [b255 (gy G i)] ++ (upto n (i + 1)).flatMap (imM G) = L ++ (imM G i ++ (upto n (i + 1)).flatMap (imM G)) := by simp [imM]
      rw [← this]; exact w2
    · rw [← w3]
      have e2 : 2 * i + 1 + 1 = 2 * (i + 1) := by omega
      unfold b255 at q1 r1
      rcases hgp with ⟨p1, p2⟩ | hgp
      · rw [if_pos p1] at q1
        rw [if_pos p2] at r1
        rw [p1] at g1
        rw [p2] at g2
        simp (disch := omega) only [f_X10_image_L45, f_X10_image_j82, hm, hm1, g1, g2, q1, r1, e2, n_i8, n_i16, n_0, n_31, n_add, n_sub, n_mul, n_neg, n_div, n_rem, n_le_t, n_le_f, n_lt_t, n_lt_f, n_eq_t, n_eq_f, n_cl, n_gd, n_gdt, n_nz, Int.reduceToNat, Int.reduceAdd, Int.reduceSub, Int.reduceMul, Int.reduceNeg, Int.reduceLT, Int.reduceLE, Int.reduceEq, Int.reduceDiv, Int.reduceMod, Nat.reduceAdd, Nat.reduceMul, ↓reduceIte, u_eq, u_no, u_nk, u_ek, u_2, u_3, j_1, j_3, j_eq, j_no, j_nk, ltd, bnd]
      · rw [if_neg (by omega)] at q1
        rw [if_neg (by omega)] at r1
        simp (disch := omega) only [f_X10_image_L45, f_X10_image_j82, hm, hm1, g1, g2, q1, r1, e2, n_i8, n_i16, n_0, n_31, n_add, n_sub, n_mul, n_neg, n_div, n_rem, n_le_t, n_le_f, n_lt_t, n_lt_f, n_eq_t, n_eq_f, n_cl, n_gd, n_gdt, n_nz, Int.reduceToNat, Int.reduceAdd, Int.reduceSub, Int.reduceMul, Int.reduceNeg, Int.reduceLT, Int.reduceLE, Int.reduceEq, Int.reduceDiv, Int.reduceMod, Nat.reduceAdd, Nat.reduceMul, ↓reduceIte, u_eq, u_no, u_nk, u_ek, u_2, u_3, j_1, j_3, j_eq, j_no, j_nk, ltd, bnd]
theorem m_image_f {B : Brd} {G : Gam} (K : ST → Option (Int32 × ST)) : ∀ (n F : Nat) (i : Int) (L : List Int) (s : ST), MA B G s → WR L s → 0 ≤ i → (n : Int) = bF B - i → n < F → (L.length : Int) + 2 * n ≤ 31 → ∃ s', WF s s' ∧ WR (L ++ (upto n i).flatMap (imF G)) s' ∧ f_X10_image_L93 K F (Int32.ofInt i) s = K s' := by
  intro n
  induction n with
  | zero =>
    intro F i L s h hW h0 hn hF hl
    obtain ⟨F, rfl⟩ : ∃ F', F = F' + 1 := ⟨F - 1, by omega⟩
    have hF6 : bF B ≤ 6 := h.1.1.1.2.2.2.2.2.2.2.2.2
    have hm := m_fieldMany h
    refine ⟨s, WF.rf s, by simp only [upto, List.flatMap_nil, List.append_nil]; exact hW, ?_⟩
    simp (disch := omega) only [f_X10_image_L93, hm, n_i8, n_i16, n_0, n_31, n_add, n_sub, n_mul, n_neg, n_div, n_rem, n_le_t, n_le_f, n_lt_t, n_lt_f, n_eq_t, n_eq_f, n_cl, n_gd, n_gdt, n_nz, Int.reduceToNat, Int.reduceAdd, Int.reduceSub, Int.reduceMul, Int.reduceNeg, Int.reduceLT, Int.reduceLE, Int.reduceEq, Int.reduceDiv, Int.reduceMod, Nat.reduceAdd, Nat.reduceMul, ↓reduceIte, u_eq, u_no, u_nk, u_ek, u_2, u_3, j_1, j_3, j_eq, j_no, j_nk, ltd, bnd]
  | succ n ih =>
    intro F i L s h hW h0 hn hF hl
    obtain ⟨F, rfl⟩ : ∃ F', F = F' + 1 := ⟨F - 1, by omega⟩
    have hF6 : bF B ≤ 6 := h.1.1.1.2.2.2.2.2.2.2.2.2
    have hm := m_fieldMany h
    have g1 := h.2.2.2.2.2 i h0 (by omega)
    have hgb := h.2.1.2.2.2 i h0 (by omega)
    obtain ⟨s1, q1, q2, q3⟩ := m_writes hW (by omega) (gb G i / 256)
    have hA1 := MA_WF h q3
    have g2 := hA1.2.2.2.2.2 i h0 (by omega)
    obtain ⟨s2, r1, r2, r3⟩ := m_writes q2 (by rw [List.length_append, List.length_singleton]; omega) (gb G i % 256)
    obtain ⟨s3, w1, w2, w3⟩ := ih F (i + 1) _ s2 (MA_WF hA1 r3) r2 (by omega) (by omega) (by omega) (by simp only [List.length_append, List.length_singleton]; omega)
    have hR : gb G i - gb G i / 256 * 256 = gb G i % 256 := n_rem _ _
    refine ⟨s3, (q3.tr r3).tr w1, ?_, ?_⟩
    · simp only [upto, List.flatMap_cons]
      have : L ++ [gb G i / 256] ++ [gb G i % 256] ++ (upto n (i + 1)).flatMap (imF G) = L ++ (imF G i ++ (upto n (i + 1)).flatMap (imF G)) := by simp [imF]
      rw [← this]; exact w2
    · rw [← w3]
      simp (disch := omega) only [f_X10_image_L93, hm, g1, g2, hR, q1, r1, n_i8, n_i16, n_0, n_31, n_add, n_sub, n_mul, n_neg, n_div, n_rem, n_le_t, n_le_f, n_lt_t, n_lt_f, n_eq_t, n_eq_f, n_cl, n_gd, n_gdt, n_nz, Int.reduceToNat, Int.reduceAdd, Int.reduceSub, Int.reduceMul, Int.reduceNeg, Int.reduceLT, Int.reduceLE, Int.reduceEq, Int.reduceDiv, Int.reduceMod, Nat.reduceAdd, Nat.reduceMul, ↓reduceIte, u_eq, u_no, u_nk, u_ek, u_2, u_3, j_1, j_3, j_eq, j_no, j_nk, ltd, bnd]
theorem m_checked_L {o : Nat} (ho : kk o 13 = true) {N : Nat} (hN : (K0 o).2 = N) (hN2 : N ≤ 100000) {L : List Int} {s : ST} (hs : ∀ j : Nat, j < L.length → s.1 o j = Int32.ofInt (L.getD j 0)) (hb : ∀ v ∈ L, 0 ≤ v ∧ v ≤ 255) (hl : L.length ≤ N) : ∀ (n F : Nat) (i c : Int), 0 ≤ i → (n : Int) = (L.length : Int) - i → n < F → 0 ≤ c → c ≤ 250 → f_X10_checked_L5 F o (Int32.ofInt (L.length : Int)) (Int32.ofInt c) (Int32.ofInt i) s = some (Int32.ofInt ((L.drop i.toNat).foldl (fun c v => (3 * c + v) % 251) c), s) := by
  intro n
  induction n with
  | zero =>
    intro F i c h0 hn hF c0 c1
    obtain ⟨F, rfl⟩ : ∃ F', F = F' + 1 := ⟨F - 1, by omega⟩
    have : L.drop i.toNat = [] := List.drop_eq_nil_of_le (by omega)
    rw [this]
    simp (disch := omega) only [f_X10_checked_L5, List.foldl_nil, n_i8, n_i16, n_0, n_31, n_add, n_sub, n_mul, n_neg, n_div, n_rem, n_le_t, n_le_f, n_lt_t, n_lt_f, n_eq_t, n_eq_f, n_cl, n_gd, n_gdt, n_nz, Int.reduceToNat, Int.reduceAdd, Int.reduceSub, Int.reduceMul, Int.reduceNeg, Int.reduceLT, Int.reduceLE, Int.reduceEq, Int.reduceDiv, Int.reduceMod, Nat.reduceAdd, Nat.reduceMul, ↓reduceIte]
  | succ n ih =>
    intro F i c h0 hn hF c0 c1
    obtain ⟨F, rfl⟩ : ∃ F', F = F' + 1 := ⟨F - 1, by omega⟩
    have hi : i.toNat < L.length := by omega
    have hc := hs i.toNat hi
    have hg : L.getD i.toNat 0 = L[i.toNat] := by rw [List.getD_eq_getElem?_getD, List.getElem?_eq_getElem hi]; rfl
    have hbd := hb (L[i.toNat]) (List.getElem_mem hi)
    rw [hg] at hc
    have hd : L.drop i.toNat = L[i.toNat] :: L.drop (i + 1).toNat := by rw [List.drop_eq_getElem_cons hi, show (i + 1).toNat = i.toNat + 1 by omega]
    rw [hd, List.foldl_cons]
    generalize L[i.toNat] = v at *
    have hR : 3 * c + v - (3 * c + v) / 251 * 251 = (3 * c + v) % 251 := n_rem _ _
    rw [← ih F (i + 1) ((3 * c + v) % 251) (by omega) (by omega) (by omega) (by omega) (by omega)]
    have hgd : ∀ (x : Option (Int32 × ST)), gd (kk o 13) x = x := fun x => by rw [ho]; rfl
    simp (disch := omega) only [f_X10_checked_L5, hgd, hN, hc, hR, n_i8, n_i16, n_0, n_31, n_add, n_sub, n_mul, n_neg, n_div, n_rem, n_le_t, n_le_f, n_lt_t, n_lt_f, n_eq_t, n_eq_f, n_cl, n_gd, n_gdt, n_nz, Int.reduceToNat, Int.reduceAdd, Int.reduceSub, Int.reduceMul, Int.reduceNeg, Int.reduceLT, Int.reduceLE, Int.reduceEq, Int.reduceDiv, Int.reduceMod, Nat.reduceAdd, Nat.reduceMul, ↓reduceIte, u_eq, u_no, u_nk, u_ek, u_2, u_3, j_1, j_3, j_eq, j_no, j_nk, ltd, bnd]
theorem m_checked {o : Nat} (ho : kk o 13 = true) {N : Nat} (hN : (K0 o).2 = N) (hN2 : N ≤ 1600) {L : List Int} {s : ST} (hs : ∀ j : Nat, j < L.length → s.1 o j = Int32.ofInt (L.getD j 0)) (hb : ∀ v ∈ L, 0 ≤ v ∧ v ≤ 255) (hl : L.length ≤ N) : f_X10_checked o (Int32.ofInt (L.length : Int)) s = some (Int32.ofInt (mrk L), s) := by
  have := m_checked_L ho hN (by omega) hs hb hl L.length fuel 0 59 (by omega) (by omega) (by unfold fuel; omega) (by omega) (by omega)
  rw [Int.toNat_zero, List.drop_zero] at this
  unfold f_X10_checked
  rw [n_i8 (by omega) (by omega)]
  exact this
