/-! L3: who stands where, and where a man goes, in the reference -/
def ab (z : Int) : Int := if z < 0 then -z else z
def sg (z : Int) : Int := if z < 0 then -1 else if 0 < z then 1 else 0
def fst1 (p : Int → Bool) : List Int → Int
  | [] => -1
  | i :: l => if p i = true then i else fst1 p l
def mens (B : Brd) : List Int := upto (bM B).toNat 0
def mAt (B : Brd) (G : Gam) (a b : Int) : Int := fst1 (fun m => decide (gx G m = a ∧ gy G m = b)) (mens B)
theorem fst1_spec {p : Int → Bool} : ∀ {l : List Int}, (fst1 p l = -1 ∧ ∀ i ∈ l, p i = false) ∨ (fst1 p l ∈ l ∧ p (fst1 p l) = true)
  | [] => Or.inl ⟨rfl, fun _ h => by cases h⟩
  | i :: l => by
    by_cases h : p i = true
    · exact Or.inr (by simp [fst1, h])
    · have h' : p i = false := by simpa using h
      rcases fst1_spec (p := p) (l := l) with ⟨e, q⟩ | ⟨e, q⟩
      · exact Or.inl ⟨by simp [fst1, h, e], fun j hj => (List.mem_cons.mp hj).elim (fun e => e ▸ h') (q j)⟩
      · exact Or.inr (by simp [fst1, h, e, q])
theorem mem_mens {B : Brd} (h : 0 ≤ bM B) {m : Int} : m ∈ mens B ↔ 0 ≤ m ∧ m < bM B := by
  unfold mens
  rw [mem_upto]
  omega
theorem mAt_spec {B : Brd} (h : 0 ≤ bM B) (G : Gam) (a b : Int) : (mAt B G a b = -1 ∧ ∀ m, 0 ≤ m → m < bM B → ¬ (gx G m = a ∧ gy G m = b)) ∨ (0 ≤ mAt B G a b ∧ mAt B G a b < bM B ∧ gx G (mAt B G a b) = a ∧ gy G (mAt B G a b) = b) := by
  rcases fst1_spec (p := fun m => decide (gx G m = a ∧ gy G m = b)) (l := mens B) with ⟨e, q⟩ | ⟨e, q⟩
  · exact Or.inl ⟨e, fun m h1 h2 => by simpa using q m ((mem_mens h).mpr ⟨h1, h2⟩)⟩
  · have h1 := (mem_mens h).mp e
    have h2 := of_decide_eq_true q
    exact Or.inr ⟨h1.1, h1.2, h2.1, h2.2⟩
theorem m_manAt_L {B : Brd} {G : Gam} {s : ST} (h : MA B G s) {a b : Int} (ha1 : -100 ≤ a) (ha2 : a ≤ 100) (hb1 : -100 ≤ b) (hb2 : b ≤ 100) : ∀ (n F : Nat) (i : Int), 0 ≤ i → (n : Int) = bM B - i → n < F → f_X10_manAt_L2 F (Int32.ofInt a) (Int32.ofInt b) (Int32.ofInt i) s = some (Int32.ofInt (fst1 (fun m => decide (gx G m = a ∧ gy G m = b)) (upto n i)), s) := by
  intro n
  have hmm := m_manMany h
  have hM : bM B ≤ 8 := h.1.1.1.2.2.2.2.2.2.2.1
  induction n with
  | zero =>
    intro F i h0 hn hF
    obtain ⟨F, rfl⟩ : ∃ F', F = F' + 1 := ⟨F - 1, by omega⟩
    simp (disch := omega) only [f_X10_manAt_L2, hmm, n_i8, n_i16, n_0, n_31, n_add, n_sub, n_mul, n_neg, n_div, n_rem, n_le_t, n_le_f, n_lt_t, n_lt_f, n_eq_t, n_eq_f, n_cl, n_gd, n_gdt, n_nz, Int.reduceToNat, Int.reduceAdd, Int.reduceSub, Int.reduceMul, Int.reduceNeg, Int.reduceLT, Int.reduceLE, Int.reduceEq, Int.reduceDiv, Int.reduceMod, Nat.reduceAdd, Nat.reduceMul, ↓reduceIte, u_eq, u_no, u_nk, u_ek, u_2, u_3, j_1, j_3, j_eq, j_no, j_nk, lt_def, Option.bind_some, upto, fst1]
  | succ n ih =>
    intro F i h0 hn hF
    obtain ⟨F, rfl⟩ : ∃ F', F = F' + 1 := ⟨F - 1, by omega⟩
    have hc := m_columnOf h h0 (show i < bM B by omega)
    have hr := m_rowOf h h0 (show i < bM B by omega)
    have hp := h.2.1.2.1 i h0 (by omega)
    have hW : bW B ≤ 5 := h.1.1.1.2.1
    have hH : bH B ≤ 5 := h.1.1.1.2.2.2.1
    have ih := ih F (i + 1) (by omega) (by omega) (by omega)
    by_cases e1 : gx G i = a
    · by_cases e2 : gy G i = b
      · simp (disch := omega) only [f_X10_manAt_L2, hmm, hc, hr, n_i8, n_i16, n_0, n_31, n_add, n_sub, n_mul, n_neg, n_div, n_rem, n_le_t, n_le_f, n_lt_t, n_lt_f, n_eq_t, n_eq_f, n_cl, n_gd, n_gdt, n_nz, Int.reduceToNat, Int.reduceAdd, Int.reduceSub, Int.reduceMul, Int.reduceNeg, Int.reduceLT, Int.reduceLE, Int.reduceEq, Int.reduceDiv, Int.reduceMod, Nat.reduceAdd, Nat.reduceMul, ↓reduceIte, u_eq, u_no, u_nk, u_ek, u_2, u_3, j_1, j_3, j_eq, j_no, j_nk, lt_def, Option.bind_some, upto, fst1, e1, e2, and_self, decide_true]
      · simp (disch := omega) only [f_X10_manAt_L2, hmm, hc, hr, n_i8, n_i16, n_0, n_31, n_add, n_sub, n_mul, n_neg, n_div, n_rem, n_le_t, n_le_f, n_lt_t, n_lt_f, n_eq_t, n_eq_f, n_cl, n_gd, n_gdt, n_nz, Int.reduceToNat, Int.reduceAdd, Int.reduceSub, Int.reduceMul, Int.reduceNeg, Int.reduceLT, Int.reduceLE, Int.reduceEq, Int.reduceDiv, Int.reduceMod, Nat.reduceAdd, Nat.reduceMul, ↓reduceIte, u_eq, u_no, u_nk, u_ek, u_2, u_3, j_1, j_3, j_eq, j_no, j_nk, lt_def, Option.bind_some, upto, fst1, e1, e2, and_false, decide_false, ih, Bool.false_eq_true]
    · simp (disch := omega) only [f_X10_manAt_L2, hmm, hc, hr, n_i8, n_i16, n_0, n_31, n_add, n_sub, n_mul, n_neg, n_div, n_rem, n_le_t, n_le_f, n_lt_t, n_lt_f, n_eq_t, n_eq_f, n_cl, n_gd, n_gdt, n_nz, Int.reduceToNat, Int.reduceAdd, Int.reduceSub, Int.reduceMul, Int.reduceNeg, Int.reduceLT, Int.reduceLE, Int.reduceEq, Int.reduceDiv, Int.reduceMod, Nat.reduceAdd, Nat.reduceMul, ↓reduceIte, u_eq, u_no, u_nk, u_ek, u_2, u_3, j_1, j_3, j_eq, j_no, j_nk, lt_def, Option.bind_some, upto, fst1, e1, false_and, decide_false, ih, Bool.false_eq_true]
theorem m_manAt {B : Brd} {G : Gam} {s : ST} (h : MA B G s) {a b : Int} (ha1 : -100 ≤ a) (ha2 : a ≤ 100) (hb1 : -100 ≤ b) (hb2 : b ≤ 100) : f_X10_manAt (Int32.ofInt a) (Int32.ofInt b) s = some (Int32.ofInt (mAt B G a b), s) := by
  have hM : bM B ≤ 8 := h.1.1.1.2.2.2.2.2.2.2.1
  have hM0 : 0 ≤ bM B := h.1.1.1.2.2.2.2.2.2.1
  exact m_manAt_L h ha1 ha2 hb1 hb2 (bM B).toNat fuel 0 (by omega) (by omega) (by unfold fuel; omega)
theorem m_abs {s : ST} {a : Int} (ha1 : -1000000 ≤ a) (ha2 : a ≤ 1000000) : f_X10_abs (Int32.ofInt a) s = some (Int32.ofInt (ab a), s) := by
  by_cases e : a < 0
  · simp (disch := omega) only [f_X10_abs, n_i8, n_i16, n_0, n_31, n_add, n_sub, n_mul, n_neg, n_div, n_rem, n_le_t, n_le_f, n_lt_t, n_lt_f, n_eq_t, n_eq_f, n_cl, n_gd, n_gdt, n_nz, Int.reduceToNat, Int.reduceAdd, Int.reduceSub, Int.reduceMul, Int.reduceNeg, Int.reduceLT, Int.reduceLE, Int.reduceEq, Int.reduceDiv, Int.reduceMod, Nat.reduceAdd, Nat.reduceMul, ↓reduceIte, u_eq, u_no, u_nk, u_ek, u_2, u_3, j_1, j_3, j_eq, j_no, j_nk, lt_def, Option.bind_some, ab, e]
  · simp (disch := omega) only [f_X10_abs, n_i8, n_i16, n_0, n_31, n_add, n_sub, n_mul, n_neg, n_div, n_rem, n_le_t, n_le_f, n_lt_t, n_lt_f, n_eq_t, n_eq_f, n_cl, n_gd, n_gdt, n_nz, Int.reduceToNat, Int.reduceAdd, Int.reduceSub, Int.reduceMul, Int.reduceNeg, Int.reduceLT, Int.reduceLE, Int.reduceEq, Int.reduceDiv, Int.reduceMod, Nat.reduceAdd, Nat.reduceMul, ↓reduceIte, u_eq, u_no, u_nk, u_ek, u_2, u_3, j_1, j_3, j_eq, j_no, j_nk, lt_def, Option.bind_some, ab, e]
def farO (x y a b : Int) : Int := if ab (x - a) ≤ ab (y - b) then ab (y - b) else ab (x - a)
theorem m_farOff {s : ST} {x y a b : Int} (h1 : -1000 ≤ x) (h2 : x ≤ 1000) (h3 : -1000 ≤ y) (h4 : y ≤ 1000) (h5 : -1000 ≤ a) (h6 : a ≤ 1000) (h7 : -1000 ≤ b) (h8 : b ≤ 1000) : f_X10_farOff (Int32.ofInt x) (Int32.ofInt y) (Int32.ofInt a) (Int32.ofInt b) s = some (Int32.ofInt (farO x y a b), s) := by
  have i1 := m_abs (s := s) (a := x - a) (by omega) (by omega)
  have i2 := m_abs (s := s) (a := y - b) (by omega) (by omega)
  have j1 : 0 ≤ ab (x - a) ∧ ab (x - a) ≤ 2000 := by unfold ab; omega
  have j2 : 0 ≤ ab (y - b) ∧ ab (y - b) ≤ 2000 := by unfold ab; omega
  by_cases e : ab (x - a) ≤ ab (y - b)
  · simp (disch := omega) only [f_X10_farOff, i1, i2, n_i8, n_i16, n_0, n_31, n_add, n_sub, n_mul, n_neg, n_div, n_rem, n_le_t, n_le_f, n_lt_t, n_lt_f, n_eq_t, n_eq_f, n_cl, n_gd, n_gdt, n_nz, Int.reduceToNat, Int.reduceAdd, Int.reduceSub, Int.reduceMul, Int.reduceNeg, Int.reduceLT, Int.reduceLE, Int.reduceEq, Int.reduceDiv, Int.reduceMod, Nat.reduceAdd, Nat.reduceMul, ↓reduceIte, u_eq, u_no, u_nk, u_ek, u_2, u_3, j_1, j_3, j_eq, j_no, j_nk, lt_def, Option.bind_some, farO, e]
  · simp (disch := omega) only [f_X10_farOff, i1, i2, n_i8, n_i16, n_0, n_31, n_add, n_sub, n_mul, n_neg, n_div, n_rem, n_le_t, n_le_f, n_lt_t, n_lt_f, n_eq_t, n_eq_f, n_cl, n_gd, n_gdt, n_nz, Int.reduceToNat, Int.reduceAdd, Int.reduceSub, Int.reduceMul, Int.reduceNeg, Int.reduceLT, Int.reduceLE, Int.reduceEq, Int.reduceDiv, Int.reduceMod, Nat.reduceAdd, Nat.reduceMul, ↓reduceIte, u_eq, u_no, u_nk, u_ek, u_2, u_3, j_1, j_3, j_eq, j_no, j_nk, lt_def, Option.bind_some, farO, e]
theorem m_sign {s : ST} {a : Int} (ha1 : -1000000 ≤ a) (ha2 : a ≤ 1000000) : f_X10_sign (Int32.ofInt a) s = some (Int32.ofInt (sg a), s) := by
  by_cases e : a < 0
  · simp (disch := omega) only [f_X10_sign, n_i8, n_i16, n_0, n_31, n_add, n_sub, n_mul, n_neg, n_div, n_rem, n_le_t, n_le_f, n_lt_t, n_lt_f, n_eq_t, n_eq_f, n_cl, n_gd, n_gdt, n_nz, Int.reduceToNat, Int.reduceAdd, Int.reduceSub, Int.reduceMul, Int.reduceNeg, Int.reduceLT, Int.reduceLE, Int.reduceEq, Int.reduceDiv, Int.reduceMod, Nat.reduceAdd, Nat.reduceMul, ↓reduceIte, u_eq, u_no, u_nk, u_ek, u_2, u_3, j_1, j_3, j_eq, j_no, j_nk, lt_def, Option.bind_some, sg, e]
  · by_cases e2 : 0 < a
    · simp (disch := omega) only [f_X10_sign, n_i8, n_i16, n_0, n_31, n_add, n_sub, n_mul, n_neg, n_div, n_rem, n_le_t, n_le_f, n_lt_t, n_lt_f, n_eq_t, n_eq_f, n_cl, n_gd, n_gdt, n_nz, Int.reduceToNat, Int.reduceAdd, Int.reduceSub, Int.reduceMul, Int.reduceNeg, Int.reduceLT, Int.reduceLE, Int.reduceEq, Int.reduceDiv, Int.reduceMod, Nat.reduceAdd, Nat.reduceMul, ↓reduceIte, u_eq, u_no, u_nk, u_ek, u_2, u_3, j_1, j_3, j_eq, j_no, j_nk, lt_def, Option.bind_some, sg, e, e2]
    · simp (disch := omega) only [f_X10_sign, n_i8, n_i16, n_0, n_31, n_add, n_sub, n_mul, n_neg, n_div, n_rem, n_le_t, n_le_f, n_lt_t, n_lt_f, n_eq_t, n_eq_f, n_cl, n_gd, n_gdt, n_nz, Int.reduceToNat, Int.reduceAdd, Int.reduceSub, Int.reduceMul, Int.reduceNeg, Int.reduceLT, Int.reduceLE, Int.reduceEq, Int.reduceDiv, Int.reduceMod, Nat.reduceAdd, Nat.reduceMul, ↓reduceIte, u_eq, u_no, u_nk, u_ek, u_2, u_3, j_1, j_3, j_eq, j_no, j_nk, lt_def, Option.bind_some, sg, e, e2]
/-- the way from (a, b) on, n squares by (dx, dy), is free -/
def fr (B : Brd) (G : Gam) (dx dy : Int) : Nat → Int → Int → Bool
  | 0, _, _ => true
  | n + 1, a, b => decide (mAt B G a b = -1) && fr B G dx dy n (a + dx) (b + dy)
theorem m_free_L {B : Brd} {G : Gam} {s : ST} (h : MA B G s) {x y dx dy : Int} (hx1 : -10 ≤ x) (hx2 : x ≤ 10) (hy1 : -10 ≤ y) (hy2 : y ≤ 10) (hdx : dx = -1 ∨ dx = 0 ∨ dx = 1) (hdy : dy = -1 ∨ dy = 0 ∨ dy = 1) (hd : ¬ (dx = 0 ∧ dy = 0)) : ∀ (n F : Nat) (a b : Int), n ≤ 20 → a + n * dx = x → b + n * dy = y → n < F → f_X10_isWayFree_L44 F (Int32.ofInt x) (Int32.ofInt y) (Int32.ofInt dx) (Int32.ofInt dy) (Int32.ofInt a) (Int32.ofInt b) s = some (bI (fr B G dx dy n a b), s) := by
  intro n
  induction n with
  | zero =>
    intro F a b h20 h1 h2 hF
    obtain ⟨F, rfl⟩ : ∃ F', F = F' + 1 := ⟨F - 1, by omega⟩
    have h1 : a = x := by simpa using h1
    have h2 : b = y := by simpa using h2
    simp (disch := omega) only [f_X10_isWayFree_L44, n_i8, n_i16, n_0, n_31, n_add, n_sub, n_mul, n_neg, n_div, n_rem, n_le_t, n_le_f, n_lt_t, n_lt_f, n_eq_t, n_eq_f, n_cl, n_gd, n_gdt, n_nz, Int.reduceToNat, Int.reduceAdd, Int.reduceSub, Int.reduceMul, Int.reduceNeg, Int.reduceLT, Int.reduceLE, Int.reduceEq, Int.reduceDiv, Int.reduceMod, Nat.reduceAdd, Nat.reduceMul, ↓reduceIte, u_eq, u_no, u_nk, u_ek, u_2, u_3, j_1, j_3, j_eq, j_no, j_nk, lt_def, Option.bind_some, fr, bI_t]
  | succ n ih =>
    intro F a b h20 h1 h2 hF
    obtain ⟨F, rfl⟩ : ∃ F', F = F' + 1 := ⟨F - 1, by omega⟩
    have h1 : a + dx + n * dx = x := by rw [← h1, Int.natCast_add, Int.add_mul]; omega
    have h2 : b + dy + n * dy = y := by rw [← h2, Int.natCast_add, Int.add_mul]; omega
    have k1 : -100 ≤ a ∧ a ≤ 100 ∧ -100 ≤ b ∧ b ≤ 100 ∧ ¬ (a = x ∧ b = y) := by
      rcases hdx with e | e | e <;> rcases hdy with e' | e' | e' <;> subst e e' <;> omega
    have ih := ih F (a + dx) (b + dy) (by omega) h1 h2 (by omega)
    have hm := m_manAt h (a := a) (b := b) (by omega) (by omega) (by omega) (by omega)
    have hs := mAt_spec (B := B) h.1.1.1.2.2.2.2.2.2.1 G a b
    have hM : bM B ≤ 8 := h.1.1.1.2.2.2.2.2.2.2.1
    have hj : f_X10_isWayFree_j56 (f_X10_isWayFree_L44 F) (Int32.ofInt x) (Int32.ofInt y) (Int32.ofInt dx) (Int32.ofInt dy) (Int32.ofInt a) (Int32.ofInt b) s = some (bI (fr B G dx dy (n + 1) a b), s) := by
      by_cases e : mAt B G a b = -1
      · simp (disch := omega) only [f_X10_isWayFree_j56, hm, n_i8, n_i16, n_0, n_31, n_add, n_sub, n_mul, n_neg, n_div, n_rem, n_le_t, n_le_f, n_lt_t, n_lt_f, n_eq_t, n_eq_f, n_cl, n_gd, n_gdt, n_nz, Int.reduceToNat, Int.reduceAdd, Int.reduceSub, Int.reduceMul, Int.reduceNeg, Int.reduceLT, Int.reduceLE, Int.reduceEq, Int.reduceDiv, Int.reduceMod, Nat.reduceAdd, Nat.reduceMul, ↓reduceIte, u_eq, u_no, u_nk, u_ek, u_2, u_3, j_1, j_3, j_eq, j_no, j_nk, lt_def, Option.bind_some, fr, e, decide_true, Bool.true_and, ih]
      · simp (disch := omega) only [f_X10_isWayFree_j56, hm, n_i8, n_i16, n_0, n_31, n_add, n_sub, n_mul, n_neg, n_div, n_rem, n_le_t, n_le_f, n_lt_t, n_lt_f, n_eq_t, n_eq_f, n_cl, n_gd, n_gdt, n_nz, Int.reduceToNat, Int.reduceAdd, Int.reduceSub, Int.reduceMul, Int.reduceNeg, Int.reduceLT, Int.reduceLE, Int.reduceEq, Int.reduceDiv, Int.reduceMod, Nat.reduceAdd, Nat.reduceMul, ↓reduceIte, u_eq, u_no, u_nk, u_ek, u_2, u_3, j_1, j_3, j_eq, j_no, j_nk, lt_def, Option.bind_some, fr, e, decide_false, Bool.false_and, bI_f]
    by_cases e1 : a = x
    · by_cases e2 : b = y
      · omega
      · simp (disch := omega) only [f_X10_isWayFree_L44, n_i8, n_i16, n_0, n_31, n_add, n_sub, n_mul, n_neg, n_div, n_rem, n_le_t, n_le_f, n_lt_t, n_lt_f, n_eq_t, n_eq_f, n_cl, n_gd, n_gdt, n_nz, Int.reduceToNat, Int.reduceAdd, Int.reduceSub, Int.reduceMul, Int.reduceNeg, Int.reduceLT, Int.reduceLE, Int.reduceEq, Int.reduceDiv, Int.reduceMod, Nat.reduceAdd, Nat.reduceMul, ↓reduceIte, u_eq, u_no, u_nk, u_ek, u_2, u_3, j_1, j_3, j_eq, j_no, j_nk, lt_def, Option.bind_some, hj]
    · simp (disch := omega) only [f_X10_isWayFree_L44, n_i8, n_i16, n_0, n_31, n_add, n_sub, n_mul, n_neg, n_div, n_rem, n_le_t, n_le_f, n_lt_t, n_lt_f, n_eq_t, n_eq_f, n_cl, n_gd, n_gdt, n_nz, Int.reduceToNat, Int.reduceAdd, Int.reduceSub, Int.reduceMul, Int.reduceNeg, Int.reduceLT, Int.reduceLE, Int.reduceEq, Int.reduceDiv, Int.reduceMod, Nat.reduceAdd, Nat.reduceMul, ↓reduceIte, u_eq, u_no, u_nk, u_ek, u_2, u_3, j_1, j_3, j_eq, j_no, j_nk, lt_def, Option.bind_some, hj]
