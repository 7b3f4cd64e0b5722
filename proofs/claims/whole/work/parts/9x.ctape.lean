/-! L3: the class's tape -/
def sx8 (t : Int) : Int := if t < 128 then t else t - 256
theorem sx_and : ∀ t : Nat, t < 256 → Int32.ofInt (sx8 (t : Int)) &&& Int32.ofInt 255 = Int32.ofInt (t : Int) := by decide +kernel
theorem sx_8 : ∀ t : Nat, t < 256 → vp_nar .byte ((Int32.ofInt (t : Int)).toInt8.toInt32) = Int32.ofInt (sx8 (t : Int)) := by decide +kernel
theorem b255_8 : ∀ i : Nat, i < 8 → (255#32).getLsbD i = true := by decide
theorem to8_and (y : Int32) : y.toInt8 = (y &&& Int32.ofInt 255).toInt8 := by
  apply Int8.toBitVec.inj
  show y.toBitVec.signExtend 8 = (y.toBitVec &&& 255#32).signExtend 8
  rw [BitVec.signExtend_eq_setWidth_of_le _ (by omega), BitVec.signExtend_eq_setWidth_of_le _ (by omega)]
  apply BitVec.eq_of_getLsbD_eq
  intro i hi
  rw [BitVec.getLsbD_setWidth, BitVec.getLsbD_setWidth, BitVec.getLsbD_and, b255_8 i hi, Bool.and_true]
theorem byt_st (y : Int32) : vp_nar .byte (y.toInt8.toInt32) = Int32.ofInt (sx8 (y &&& Int32.ofInt 255).toInt) := by
  have hz := and255 y
  have e : y &&& Int32.ofInt 255 = Int32.ofInt (((y &&& Int32.ofInt 255).toInt.toNat : Nat) : Int) := by
    rw [show (((y &&& Int32.ofInt 255).toInt.toNat : Nat) : Int) = (y &&& Int32.ofInt 255).toInt by omega, Int32.ofInt_toInt]
  have h1 := sx_8 (y &&& Int32.ofInt 255).toInt.toNat (by omega)
  rw [← e, ← to8_and, show (((y &&& Int32.ofInt 255).toInt.toNat : Nat) : Int) = (y &&& Int32.ofInt 255).toInt by omega] at h1
  exact h1
def CT (T : Int → Int) (n : Int) (s : ST) : Prop := s.1 1 1 = Int32.ofInt n ∧ (0 ≤ n ∧ n ≤ 1600) ∧ ∀ j : Int, 0 ≤ j → j < n → s.1 2 j.toNat = Int32.ofInt (sx8 (T j)) ∧ 0 ≤ T j ∧ T j ≤ 255
theorem CT_fr {T : Int → Int} {n : Int} {s s' : ST} (h : CT T n s) (h1 : s'.1 1 1 = s.1 1 1) (h2 : ∀ k : Nat, s'.1 2 k = s.1 2 k) : CT T n s' := ⟨h1.trans h.1, h.2.1, fun j j1 j2 => ⟨(h2 _).trans (h.2.2 j j1 j2).1, (h.2.2 j j1 j2).2⟩⟩
theorem CT_cg {T T' : Int → Int} {n : Int} {s : ST} (h : CT T n s) (hT : ∀ j, 0 ≤ j → j < n → T j = T' j) : CT T' n s := ⟨h.1, h.2.1, fun j j1 j2 => by rw [← hT j j1 j2]; exact h.2.2 j j1 j2⟩
theorem CT_0 {T : Int → Int} {n : Int} {s : ST} : CT T 0 (uI s 1 1 (Int32.ofInt 0)) := ⟨u_eq _ _ _ _, by omega, fun j j1 j2 => by omega⟩
theorem c_byteAt {T : Int → Int} {n : Int} {s : ST} (h : CT T n s) {k : Int} (k0 : 0 ≤ k) (k1 : k < n) : f_X7_byteAt (Int32.ofInt k) s = some (Int32.ofInt (T k), s) := by
  obtain ⟨h1, h2, h3⟩ := h
  obtain ⟨a, b, c⟩ := h3 k k0 k1
  have e := sx_and (T k).toNat (by omega)
  rw [show (((T k).toNat : Nat) : Int) = T k by omega] at e
  simp (disch := omega) only [f_X7_byteAt, h1, a, e, on1600, n_i8, n_i16, n_0, n_31, n_add, n_sub, n_mul, n_neg, n_div, n_rem, n_le_t, n_le_f, n_lt_t, n_lt_f, n_eq_t, n_eq_f, n_cl, n_gd, n_gdt, n_nz, Int.reduceToNat, Int.reduceAdd, Int.reduceSub, Int.reduceMul, Int.reduceNeg, Int.reduceLT, Int.reduceLE, Int.reduceEq, Int.reduceDiv, Int.reduceMod, Nat.reduceAdd, Nat.reduceMul, ↓reduceIte, u_eq, u_no, u_nk, u_ek, u_2, u_3, j_1, j_3, j_eq, j_no, j_nk, ltd, bnd]
theorem c_pairAt {T : Int → Int} {n : Int} {s : ST} (h : CT T n s) {k : Int} (k0 : 0 ≤ k) (k1 : k + 1 < n) : f_X7_pairAt (Int32.ofInt k) s = some (Int32.ofInt (256 * T k + T (k + 1)), s) := by
  have a := c_byteAt h k0 (by omega)
  have b := c_byteAt h (k := k + 1) (by omega) k1
  simp (disch := omega) only [f_X7_pairAt, a, b, n_i8, n_i16, n_0, n_31, n_add, n_sub, n_mul, n_neg, n_div, n_rem, n_le_t, n_le_f, n_lt_t, n_lt_f, n_eq_t, n_eq_f, n_cl, n_gd, n_gdt, n_nz, Int.reduceToNat, Int.reduceAdd, Int.reduceSub, Int.reduceMul, Int.reduceNeg, Int.reduceLT, Int.reduceLE, Int.reduceEq, Int.reduceDiv, Int.reduceMod, Nat.reduceAdd, Nat.reduceMul, ↓reduceIte, u_eq, u_no, u_nk, u_ek, u_2, u_3, j_1, j_3, j_eq, j_no, j_nk, ltd, bnd]
def addT (T : Int → Int) (n : Int) (a : Int32) (j : Int) : Int := if j < n then T j else (bt a (j - n)).toInt
/-- what the tape's calls may change in the class -/
def TX (s s' : ST) : Prop := (∀ o k : Nat, ¬ o = 2 → ¬ (o = 1 ∧ k = 1) → s'.1 o k = s.1 o k) ∧ s'.2 = s.2
theorem TX.tr {s t u : ST} (h1 : TX s t) (h2 : TX t u) : TX s u := ⟨fun a k x y => (h2.1 a k x y).trans (h1.1 a k x y), h2.2.trans h1.2⟩
theorem c_add_T {T : Int → Int} {n : Int} {a : Int32} (n0 : 0 ≤ n) (n1 : n + 4 ≤ 1600) : ∀ (m F : Nat) (i : Int) (s : ST), CT (addT T n a) (n + i) s → 0 ≤ i → (m : Int) = 4 - i → m < F → ∃ s', f_X7_add_L3 F a (Int32.ofInt (24 - 8 * i)) s = some s' ∧ CT (addT T n a) (n + 4) s' ∧ TX s s' := by
  intro m
  induction m with
  | zero =>
    intro F i s h i0 hm hF
    obtain ⟨F, rfl⟩ : ∃ F', F = F' + 1 := ⟨F - 1, by omega⟩
    have hi : i = 4 := by omega
    subst hi
    refine ⟨s, ?_, h, ⟨fun _ _ _ _ => rfl, rfl⟩⟩
    simp (disch := omega) only [f_X7_add_L3, n_i8, n_i16, n_0, n_31, n_add, n_sub, n_mul, n_neg, n_div, n_rem, n_le_t, n_le_f, n_lt_t, n_lt_f, n_eq_t, n_eq_f, n_cl, n_gd, n_gdt, n_nz, Int.reduceToNat, Int.reduceAdd, Int.reduceSub, Int.reduceMul, Int.reduceNeg, Int.reduceLT, Int.reduceLE, Int.reduceEq, Int.reduceDiv, Int.reduceMod, Nat.reduceAdd, Nat.reduceMul, ↓reduceIte, u_eq, u_no, u_nk, u_ek, u_2, u_3, j_1, j_3, j_eq, j_no, j_nk, ltd, bnd]
  | succ m ih =>
    intro F i s h i0 hm hF
    obtain ⟨F, rfl⟩ : ∃ F', F = F' + 1 := ⟨F - 1, by omega⟩
    have h' := h
    obtain ⟨h1, h2, h3⟩ := h'
    have hst := byt_st (a >>> (Int32.ofInt (24 - 8 * i) &&& Int32.ofInt 31))
    have hbr := and255 (a >>> (Int32.ofInt (24 - 8 * i) &&& Int32.ofInt 31))
    have hT : addT T n a (n + i) = ((a >>> (Int32.ofInt (24 - 8 * i) &&& Int32.ofInt 31)) &&& Int32.ofInt 255).toInt := by
      unfold addT
      rw [if_neg (by omega), show n + i - n = i by omega]
      rfl
    have hCT : CT (addT T n a) (n + (i + 1)) (uI (uI s 2 (n + i).toNat (Int32.ofInt (sx8 (addT T n a (n + i))))) 1 1 (Int32.ofInt (n + i + 1))) := by
      refine ⟨by rw [u_eq, show n + (i + 1) = n + i + 1 by omega], by omega, fun j j1 j2 => ?_⟩
      rw [u_no (by omega)]
      by_cases e : j = n + i
      · subst e
        rw [u_eq, hT]
        exact ⟨rfl, hbr⟩
      · rw [u_nk (by omega)]
        exact h3 j j1 (by omega)
    rw [← hT] at hst
    obtain ⟨s', q1, q2, q3⟩ := ih F (i + 1) _ hCT (by omega) (by omega) (by omega)
    have hfx : TX s (uI (uI s 2 (n + i).toNat (Int32.ofInt (sx8 (addT T n a (n + i))))) 1 1 (Int32.ofInt (n + i + 1))) := ⟨fun o k x y => by (simp only [ua, ja, u_2, u_3, j_1, j_3]; (repeat' split) <;> first | rfl | (exfalso; omega)), rfl⟩
    refine ⟨s', ?_, q2, hfx.tr q3⟩
    rw [← q1, f_X7_add_L3, show 24 - 8 * (i + 1) = 24 - 8 * i + -8 by omega]
    simp (disch := omega) only [h1, hst, on1600, n_i8, n_i16, n_0, n_31, n_add, n_sub, n_mul, n_neg, n_div, n_rem, n_le_t, n_le_f, n_lt_t, n_lt_f, n_eq_t, n_eq_f, n_cl, n_gd, n_gdt, n_nz, Int.reduceToNat, Int.reduceAdd, Int.reduceSub, Int.reduceMul, Int.reduceNeg, Int.reduceLT, Int.reduceLE, Int.reduceEq, Int.reduceDiv, Int.reduceMod, Nat.reduceAdd, Nat.reduceMul, ↓reduceIte, u_eq, u_no, u_nk, u_ek, u_2, u_3, j_1, j_3, j_eq, j_no, j_nk, ltd, bnd]
theorem c_addT {T : Int → Int} {n : Int} {s : ST} (h : CT T n s) (n1 : n + 4 ≤ 1600) (a : Int32) : ∃ s', f_X7_add a s = some s' ∧ CT (addT T n a) (n + 4) s' ∧ TX s s' := by
  have h0 : CT (addT T n a) (n + 0) s := by
    rw [Int.add_zero]
    exact CT_cg h (fun j j0 j1 => by unfold addT; rw [if_pos j1])
  obtain ⟨s', q1, q2, q3⟩ := c_add_T (T := T) (n := n) (a := a) h.2.1.1 n1 4 fuel 0 s h0 (by omega) (by omega) (by unfold fuel; omega)
  refine ⟨s', ?_, q2, q3⟩
  have e : f_X7_add a s = f_X7_add_L3 fuel a ((Int8.ofInt 24).toInt32) s := rfl
  rw [e, n_i8 (by omega) (by omega)]
  exact q1
theorem fed_eq (T : Int → Int) (n : Int) (a b c d e : Int32) (j : Int) (j1 : j < n + 20) : addT (addT (addT (addT (addT T n a) (n + 4) b) (n + 4 + 4) c) (n + 4 + 4 + 4) d) (n + 4 + 4 + 4 + 4) e j = fedT T n a b c d e j := by
  unfold fedT
  by_cases x0 : j < n
  · rw [if_pos x0]
    unfold addT
    rw [if_pos (by omega), if_pos (by omega), if_pos (by omega), if_pos (by omega), if_pos x0]
  rw [if_neg x0]
  unfold addT wsel
  by_cases x1 : j < n + 4
  · rw [if_pos (by omega), if_pos (by omega), if_pos (by omega), if_pos (by omega), if_neg x0, if_pos (by omega), show (j - n) % 4 = j - n by omega]
  by_cases x2 : j < n + 8
  · rw [if_pos (by omega), if_pos (by omega), if_pos (by omega), if_neg x1, if_neg (by omega), if_pos (by omega), show (j - n) % 4 = j - (n + 4) by omega]
  by_cases x3 : j < n + 12
  · rw [if_pos (by omega), if_pos (by omega), if_neg (by omega), if_neg (by omega), if_neg (by omega), if_pos (by omega), show (j - n) % 4 = j - (n + 4 + 4) by omega]
  by_cases x4 : j < n + 16
  · rw [if_pos (by omega), if_neg (by omega), if_neg (by omega), if_neg (by omega), if_neg (by omega), if_pos (by omega), show (j - n) % 4 = j - (n + 4 + 4 + 4) by omega]
  · rw [if_neg (by omega), if_neg (by omega), if_neg (by omega), if_neg (by omega), if_neg (by omega), show (j - n) % 4 = j - (n + 4 + 4 + 4 + 4) by omega]
theorem c_feed {T : Int → Int} {n : Int} {s : ST} (h : CT T n s) (a b c d e : Int32) : (n + 20 ≤ 1600 → ∃ s', f_X9_feed a b c d e s = some (Int32.ofInt (n + 20), s') ∧ CT (fedT T n a b c d e) (n + 20) s' ∧ TX s s') ∧ (¬ n + 20 ≤ 1600 → f_X9_feed a b c d e s = some (Int32.ofInt (-1), crf s 0)) := by
  have h1 := h.1
  have h2 := h.2.1
  constructor
  · intro hn
    obtain ⟨s1, a1, a2, a3⟩ := c_addT h (by omega) a
    obtain ⟨s2, b1, b2, b3⟩ := c_addT a2 (by omega) b
    obtain ⟨s3, c1, c2, c3⟩ := c_addT b2 (by omega) c
    obtain ⟨s4, d1, d2, d3⟩ := c_addT c2 (by omega) d
    obtain ⟨s5, e1, e2, e3⟩ := c_addT d2 (by omega) e
    have hl := e2.1
    rw [show n + 4 + 4 + 4 + 4 + 4 = n + 20 by omega] at hl e2
    refine ⟨s5, ?_, CT_cg e2 (fun j j0 j1 => fed_eq T n a b c d e j j1), (((a3.tr b3).tr c3).tr d3).tr e3⟩
    simp (disch := omega) only [f_X9_feed, h1, a1, b1, c1, d1, e1, hl, n_i8, n_i16, n_0, n_31, n_add, n_sub, n_mul, n_neg, n_div, n_rem, n_le_t, n_le_f, n_lt_t, n_lt_f, n_eq_t, n_eq_f, n_cl, n_gd, n_gdt, n_nz, Int.reduceToNat, Int.reduceAdd, Int.reduceSub, Int.reduceMul, Int.reduceNeg, Int.reduceLT, Int.reduceLE, Int.reduceEq, Int.reduceDiv, Int.reduceMod, Nat.reduceAdd, Nat.reduceMul, ↓reduceIte, u_eq, u_no, u_nk, u_ek, u_2, u_3, j_1, j_3, j_eq, j_no, j_nk, ltd, bnd]
  · intro hn
    have href := c_refuse (s := s) (j := 0) (by omega) (by omega)
    simp (disch := omega) only [f_X9_feed, h1, href, n_i8, n_i16, n_0, n_31, n_add, n_sub, n_mul, n_neg, n_div, n_rem, n_le_t, n_le_f, n_lt_t, n_lt_f, n_eq_t, n_eq_f, n_cl, n_gd, n_gdt, n_nz, Int.reduceToNat, Int.reduceAdd, Int.reduceSub, Int.reduceMul, Int.reduceNeg, Int.reduceLT, Int.reduceLE, Int.reduceEq, Int.reduceDiv, Int.reduceMod, Nat.reduceAdd, Nat.reduceMul, ↓reduceIte, u_eq, u_no, u_nk, u_ek, u_2, u_3, j_1, j_3, j_eq, j_no, j_nk, ltd, bnd]
theorem c_end {T : Int → Int} {n : Int} {s : ST} (h : CT T n s) {z : Int} (z1 : -2147483648 ≤ z) (z2 : z ≤ 2147483647) : (0 ≤ z ∧ z ≤ n → f_X9_end (Int32.ofInt z) s = some (Int32.ofInt 1, uI s 1 1 (Int32.ofInt z)) ∧ CT T z (uI s 1 1 (Int32.ofInt z))) ∧ (¬ (0 ≤ z ∧ z ≤ n) → f_X9_end (Int32.ofInt z) s = some (Int32.ofInt 0, crf s 0)) := by
  have h1 := h.1
  have h2 := h.2.1
  have href := c_refuse (s := s) (j := 0) (by omega) (by omega)
  constructor
  · intro hz
    refine ⟨?_, u_eq _ _ _ _, by omega, fun j j1 j2 => ?_⟩
    · simp (disch := omega) only [f_X9_end, h1, n_i8, n_i16, n_0, n_31, n_add, n_sub, n_mul, n_neg, n_div, n_rem, n_le_t, n_le_f, n_lt_t, n_lt_f, n_eq_t, n_eq_f, n_cl, n_gd, n_gdt, n_nz, Int.reduceToNat, Int.reduceAdd, Int.reduceSub, Int.reduceMul, Int.reduceNeg, Int.reduceLT, Int.reduceLE, Int.reduceEq, Int.reduceDiv, Int.reduceMod, Nat.reduceAdd, Nat.reduceMul, ↓reduceIte, u_eq, u_no, u_nk, u_ek, u_2, u_3, j_1, j_3, j_eq, j_no, j_nk, ltd, bnd]
    · rw [u_no (by omega)]; exact h.2.2 j j1 (by omega)
  · intro hz
    by_cases e1 : z < 0
    · simp (disch := omega) only [f_X9_end, f_X9_end_j15, href, n_i8, n_i16, n_0, n_31, n_add, n_sub, n_mul, n_neg, n_div, n_rem, n_le_t, n_le_f, n_lt_t, n_lt_f, n_eq_t, n_eq_f, n_cl, n_gd, n_gdt, n_nz, Int.reduceToNat, Int.reduceAdd, Int.reduceSub, Int.reduceMul, Int.reduceNeg, Int.reduceLT, Int.reduceLE, Int.reduceEq, Int.reduceDiv, Int.reduceMod, Nat.reduceAdd, Nat.reduceMul, ↓reduceIte, u_eq, u_no, u_nk, u_ek, u_2, u_3, j_1, j_3, j_eq, j_no, j_nk, ltd, bnd]
    · simp (disch := omega) only [f_X9_end, f_X9_end_j15, h1, href, n_i8, n_i16, n_0, n_31, n_add, n_sub, n_mul, n_neg, n_div, n_rem, n_le_t, n_le_f, n_lt_t, n_lt_f, n_eq_t, n_eq_f, n_cl, n_gd, n_gdt, n_nz, Int.reduceToNat, Int.reduceAdd, Int.reduceSub, Int.reduceMul, Int.reduceNeg, Int.reduceLT, Int.reduceLE, Int.reduceEq, Int.reduceDiv, Int.reduceMod, Nat.reduceAdd, Nat.reduceMul, ↓reduceIte, u_eq, u_no, u_nk, u_ek, u_2, u_3, j_1, j_3, j_eq, j_no, j_nk, ltd, bnd]
theorem c_fault {s : ST} {w : Int} (w1 : -2147483648 ≤ w) (w2 : w ≤ 2147483647) : f_X9_fault (Int32.ofInt w) s = some (aFault (s.1 0 13) (s.1 0 14) w, s) := by
  unfold aFault
  by_cases e0 : w = 0
  · rw [if_pos e0]; simp (disch := omega) only [f_X9_fault, n_i8, n_i16, n_0, n_31, n_add, n_sub, n_mul, n_neg, n_div, n_rem, n_le_t, n_le_f, n_lt_t, n_lt_f, n_eq_t, n_eq_f, n_cl, n_gd, n_gdt, n_nz, Int.reduceToNat, Int.reduceAdd, Int.reduceSub, Int.reduceMul, Int.reduceNeg, Int.reduceLT, Int.reduceLE, Int.reduceEq, Int.reduceDiv, Int.reduceMod, Nat.reduceAdd, Nat.reduceMul, ↓reduceIte, u_eq, u_no, u_nk, u_ek, u_2, u_3, j_1, j_3, j_eq, j_no, j_nk, ltd, bnd]
  · rw [if_neg e0]
    by_cases e1 : w = 1
    · rw [if_pos e1]; simp (disch := omega) only [f_X9_fault, n_i8, n_i16, n_0, n_31, n_add, n_sub, n_mul, n_neg, n_div, n_rem, n_le_t, n_le_f, n_lt_t, n_lt_f, n_eq_t, n_eq_f, n_cl, n_gd, n_gdt, n_nz, Int.reduceToNat, Int.reduceAdd, Int.reduceSub, Int.reduceMul, Int.reduceNeg, Int.reduceLT, Int.reduceLE, Int.reduceEq, Int.reduceDiv, Int.reduceMod, Nat.reduceAdd, Nat.reduceMul, ↓reduceIte, u_eq, u_no, u_nk, u_ek, u_2, u_3, j_1, j_3, j_eq, j_no, j_nk, ltd, bnd]
    · rw [if_neg e1]; simp (disch := omega) only [f_X9_fault, n_i8, n_i16, n_0, n_31, n_add, n_sub, n_mul, n_neg, n_div, n_rem, n_le_t, n_le_f, n_lt_t, n_lt_f, n_eq_t, n_eq_f, n_cl, n_gd, n_gdt, n_nz, Int.reduceToNat, Int.reduceAdd, Int.reduceSub, Int.reduceMul, Int.reduceNeg, Int.reduceLT, Int.reduceLE, Int.reduceEq, Int.reduceDiv, Int.reduceMod, Nat.reduceAdd, Nat.reduceMul, ↓reduceIte, u_eq, u_no, u_nk, u_ek, u_2, u_3, j_1, j_3, j_eq, j_no, j_nk, ltd, bnd]
theorem on6 : Int32.ofNat 6 = Int32.ofInt 6 := rfl
theorem c_status {s : ST} {w : Int} (w1 : -2147483648 ≤ w) (w2 : w ≤ 2147483647) : f_X9_status (Int32.ofInt w) s = some (if 0 ≤ w ∧ w ≤ 5 then s.1 61 w.toNat else Int32.ofInt (-1), s) := by
  by_cases e : 0 ≤ w ∧ w ≤ 5
  · rw [if_pos e]; simp (disch := omega) only [f_X9_status, on6, n_i8, n_i16, n_0, n_31, n_add, n_sub, n_mul, n_neg, n_div, n_rem, n_le_t, n_le_f, n_lt_t, n_lt_f, n_eq_t, n_eq_f, n_cl, n_gd, n_gdt, n_nz, Int.reduceToNat, Int.reduceAdd, Int.reduceSub, Int.reduceMul, Int.reduceNeg, Int.reduceLT, Int.reduceLE, Int.reduceEq, Int.reduceDiv, Int.reduceMod, Nat.reduceAdd, Nat.reduceMul, ↓reduceIte, u_eq, u_no, u_nk, u_ek, u_2, u_3, j_1, j_3, j_eq, j_no, j_nk, ltd, bnd]
  · rw [if_neg e]
    by_cases e1 : w < 0
    · simp (disch := omega) only [f_X9_status, on6, n_i8, n_i16, n_0, n_31, n_add, n_sub, n_mul, n_neg, n_div, n_rem, n_le_t, n_le_f, n_lt_t, n_lt_f, n_eq_t, n_eq_f, n_cl, n_gd, n_gdt, n_nz, Int.reduceToNat, Int.reduceAdd, Int.reduceSub, Int.reduceMul, Int.reduceNeg, Int.reduceLT, Int.reduceLE, Int.reduceEq, Int.reduceDiv, Int.reduceMod, Nat.reduceAdd, Nat.reduceMul, ↓reduceIte, u_eq, u_no, u_nk, u_ek, u_2, u_3, j_1, j_3, j_eq, j_no, j_nk, ltd, bnd]
    · simp (disch := omega) only [f_X9_status, on6, n_i8, n_i16, n_0, n_31, n_add, n_sub, n_mul, n_neg, n_div, n_rem, n_le_t, n_le_f, n_lt_t, n_lt_f, n_eq_t, n_eq_f, n_cl, n_gd, n_gdt, n_nz, Int.reduceToNat, Int.reduceAdd, Int.reduceSub, Int.reduceMul, Int.reduceNeg, Int.reduceLT, Int.reduceLE, Int.reduceEq, Int.reduceDiv, Int.reduceMod, Nat.reduceAdd, Nat.reduceMul, ↓reduceIte, u_eq, u_no, u_nk, u_ek, u_2, u_3, j_1, j_3, j_eq, j_no, j_nk, ltd, bnd]
/-- what the class has written -/
def WC (L : List Int) (s : ST) : Prop := s.1 0 17 = Int32.ofInt (L.length : Int) ∧ ∀ j : Nat, j < L.length → s.1 62 j = Int32.ofInt (L.getD j 0)
theorem WC_fr {L : List Int} {s s' : ST} (h : WC L s) (h1 : s'.1 0 17 = s.1 0 17) (h2 : ∀ k : Nat, s'.1 62 k = s.1 62 k) : WC L s' := ⟨h1.trans h.1, fun j hj => (h2 j).trans (h.2 j hj)⟩
theorem c_octet {L : List Int} {s : ST} (h : WC L s) (hl : L.length ≤ 32) {k : Int} (k1 : -2147483648 ≤ k) (k2 : k ≤ 2147483647) : f_X9_octet (Int32.ofInt k) s = some (Int32.ofInt (if 0 ≤ k ∧ k < (L.length : Int) then L.getD k.toNat 0 else -1), s) := by
  have h1 := h.1
  by_cases e : 0 ≤ k ∧ k < (L.length : Int)
  · rw [if_pos e]
    have h2 := h.2 k.toNat (by omega)
    simp (disch := omega) only [f_X9_octet, h1, h2, n_i8, n_i16, n_0, n_31, n_add, n_sub, n_mul, n_neg, n_div, n_rem, n_le_t, n_le_f, n_lt_t, n_lt_f, n_eq_t, n_eq_f, n_cl, n_gd, n_gdt, n_nz, Int.reduceToNat, Int.reduceAdd, Int.reduceSub, Int.reduceMul, Int.reduceNeg, Int.reduceLT, Int.reduceLE, Int.reduceEq, Int.reduceDiv, Int.reduceMod, Nat.reduceAdd, Nat.reduceMul, ↓reduceIte, u_eq, u_no, u_nk, u_ek, u_2, u_3, j_1, j_3, j_eq, j_no, j_nk, ltd, bnd]
  · rw [if_neg e]
    by_cases e1 : k < 0
    · simp (disch := omega) only [f_X9_octet, n_i8, n_i16, n_0, n_31, n_add, n_sub, n_mul, n_neg, n_div, n_rem, n_le_t, n_le_f, n_lt_t, n_lt_f, n_eq_t, n_eq_f, n_cl, n_gd, n_gdt, n_nz, Int.reduceToNat, Int.reduceAdd, Int.reduceSub, Int.reduceMul, Int.reduceNeg, Int.reduceLT, Int.reduceLE, Int.reduceEq, Int.reduceDiv, Int.reduceMod, Nat.reduceAdd, Nat.reduceMul, ↓reduceIte, u_eq, u_no, u_nk, u_ek, u_2, u_3, j_1, j_3, j_eq, j_no, j_nk, ltd, bnd]
    · simp (disch := omega) only [f_X9_octet, h1, n_i8, n_i16, n_0, n_31, n_add, n_sub, n_mul, n_neg, n_div, n_rem, n_le_t, n_le_f, n_lt_t, n_lt_f, n_eq_t, n_eq_f, n_cl, n_gd, n_gdt, n_nz, Int.reduceToNat, Int.reduceAdd, Int.reduceSub, Int.reduceMul, Int.reduceNeg, Int.reduceLT, Int.reduceLE, Int.reduceEq, Int.reduceDiv, Int.reduceMod, Nat.reduceAdd, Nat.reduceMul, ↓reduceIte, u_eq, u_no, u_nk, u_ek, u_2, u_3, j_1, j_3, j_eq, j_no, j_nk, ltd, bnd]
theorem on32 : Int32.ofNat 32 = Int32.ofInt 32 := rfl
def WX (s s' : ST) : Prop := (∀ o k : Nat, ¬ o = 62 → ¬ (o = 0 ∧ k = 17) → s'.1 o k = s.1 o k) ∧ s'.2 = s.2
theorem WX.rf (s : ST) : WX s s := ⟨fun _ _ _ _ => rfl, rfl⟩
theorem WX.tr {s t u : ST} (h1 : WX s t) (h2 : WX t u) : WX s u := ⟨fun a k x y => (h2.1 a k x y).trans (h1.1 a k x y), h2.2.trans h1.2⟩
theorem c_write {L : List Int} {s : ST} (h : WC L s) (hl : L.length < 32) (v : Int) : ∃ s', f_X9_write (Int32.ofInt v) s = some s' ∧ WC (L ++ [v]) s' ∧ WX s s' := by
  have h1 := h.1
  have e1 : ((L.length : Int)).toNat = L.length := by omega
  refine ⟨uI (uI s 62 L.length (Int32.ofInt v)) 0 17 (Int32.ofInt ((L.length : Int) + 1)), ?_, ⟨?_, fun j hj => ?_⟩, ⟨fun a k x y => by (simp only [ua, ja, u_2, u_3, j_1, j_3]; (repeat' split) <;> first | rfl | (exfalso; omega)), rfl⟩⟩
  · simp (disch := omega) only [f_X9_write, h1, on32, e1, n_i8, n_i16, n_0, n_31, n_add, n_sub, n_mul, n_neg, n_div, n_rem, n_le_t, n_le_f, n_lt_t, n_lt_f, n_eq_t, n_eq_f, n_cl, n_gd, n_gdt, n_nz, Int.reduceToNat, Int.reduceAdd, Int.reduceSub, Int.reduceMul, Int.reduceNeg, Int.reduceLT, Int.reduceLE, Int.reduceEq, Int.reduceDiv, Int.reduceMod, Nat.reduceAdd, Nat.reduceMul, ↓reduceIte, u_eq, u_no, u_nk, u_ek, u_2, u_3, j_1, j_3, j_eq, j_no, j_nk, ltd, bnd]
  · rw [u_eq, List.length_append]; rfl
  · rw [List.length_append, List.length_singleton] at hj
    rw [u_no (by omega)]
    by_cases e : j = L.length
    · rw [u_ek e, e, List.getD_eq_getElem?_getD, List.getElem?_append_right (by omega), Nat.sub_self]; rfl
    · rw [u_nk e, List.getD_eq_getElem?_getD, List.getElem?_append_left (by omega), ← List.getD_eq_getElem?_getD]
      exact h.2 j (by omega)
theorem c_writePair {L : List Int} {s : ST} (h : WC L s) (hl : L.length + 1 < 32) {v : Int} (v0 : 0 ≤ v) (v1 : v ≤ 65535) : ∃ s', f_X9_writePair (Int32.ofInt v) s = some s' ∧ WC (L ++ [v / 256, v % 256]) s' ∧ WX s s' := by
  obtain ⟨s1, a1, a2, a3⟩ := c_write h (by omega) (v / 256)
  obtain ⟨s2, b1, b2, b3⟩ := c_write a2 (by rw [List.length_append, List.length_singleton]; omega) (v % 256)
  refine ⟨s2, ?_, by rw [List.append_assoc] at b2; exact b2, a3.tr b3⟩
  simp (disch := omega) only [f_X9_writePair, a1, b1, n_i8, n_i16, n_0, n_31, n_add, n_sub, n_mul, n_neg, n_div, n_rem, n_le_t, n_le_f, n_lt_t, n_lt_f, n_eq_t, n_eq_f, n_cl, n_gd, n_gdt, n_nz, Int.reduceToNat, Int.reduceAdd, Int.reduceSub, Int.reduceMul, Int.reduceNeg, Int.reduceLT, Int.reduceLE, Int.reduceEq, Int.reduceDiv, Int.reduceMod, Nat.reduceAdd, Nat.reduceMul, ↓reduceIte, u_eq, u_no, u_nk, u_ek, u_2, u_3, j_1, j_3, j_eq, j_no, j_nk, ltd, bnd]
