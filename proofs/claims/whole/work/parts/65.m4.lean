/-! L3: counts and looks of the reference -/
def smL (f : Int → Int) : List Int → Int
  | [] => 0
  | i :: l => f i + smL f l
def goK (B : Brd) (G : Gam) (m k : Int) : Bool := go B G m (k % bW B) (k / bW B)
def sqs (B : Brd) : List Int := upto (bW B * bH B).toNat 0
def ks (B : Brd) (G : Gam) (m : Int) : List Int := (sqs B).filter (goK B G m)
def nMov (B : Brd) (G : Gam) (m : Int) : Int := ((ks B G m).length : Int)
theorem m_movesOf_L {B : Brd} {G : Gam} {s : ST} (h : MA B G s) {m : Int} (h1 : 0 ≤ m) (h2 : m < bM B) : ∀ (n F : Nat) (i a : Int), 0 ≤ i → (n : Int) = bW B * bH B - i → n < F → f_X10_movesOf_L4 F (Int32.ofInt m) (Int32.ofInt a) (Int32.ofInt i) s = some (Int32.ofInt (a + (((upto n i).filter (goK B G m)).length : Int)), s) := by
  intro n
  have hpl := m_places h
  have hW : bW B ≤ 5 := h.1.1.1.2.1; have hH : bH B ≤ 5 := h.1.1.1.2.2.2.1; have hW0 : 0 ≤ bW B := h.1.1.1.1; have hH0 : 0 ≤ bH B := h.1.1.1.2.2.1; have hWH : bW B * bH B ≤ 25 := (Int.mul_le_mul hW hH hH0 (by omega)); have hWH0 : 0 ≤ bW B * bH B := Int.mul_nonneg hW0 hH0
  induction n with
  | zero =>
    intro F i a h0 hn hF
    obtain ⟨F, rfl⟩ : ∃ F', F = F' + 1 := ⟨F - 1, by omega⟩
    simp (disch := omega) only [f_X10_movesOf_L4, hpl, n_i8, n_i16, n_0, n_31, n_add, n_sub, n_mul, n_neg, n_div, n_rem, n_le_t, n_le_f, n_lt_t, n_lt_f, n_eq_t, n_eq_f, n_cl, n_gd, n_gdt, n_nz, Int.reduceToNat, Int.reduceAdd, Int.reduceSub, Int.reduceMul, Int.reduceNeg, Int.reduceLT, Int.reduceLE, Int.reduceEq, Int.reduceDiv, Int.reduceMod, Nat.reduceAdd, Nat.reduceMul, ↓reduceIte, u_eq, u_no, u_nk, u_ek, u_2, u_3, j_1, j_3, j_eq, j_no, j_nk, lt_def, Option.bind_some, upto, List.filter_nil, List.length_nil, Int.natCast_zero, Int.add_zero]
  | succ n ih =>
    intro F i a h0 hn hF
    obtain ⟨F, rfl⟩ : ∃ F', F = F' + 1 := ⟨F - 1, by omega⟩
    have hc := m_canGo h h1 h2 h0 (show i < bW B * bH B by omega)
    cases e : goK B G m i with
    | true =>
      have e' : go B G m (i % bW B) (i / bW B) = true := e
      have ih := ih F (i + 1) (a + 1) (by omega) (by omega) (by omega)
      simp (disch := omega) only [f_X10_movesOf_L4, hpl, hc, e, e', bI_t, n_i8, n_i16, n_0, n_31, n_add, n_sub, n_mul, n_neg, n_div, n_rem, n_le_t, n_le_f, n_lt_t, n_lt_f, n_eq_t, n_eq_f, n_cl, n_gd, n_gdt, n_nz, Int.reduceToNat, Int.reduceAdd, Int.reduceSub, Int.reduceMul, Int.reduceNeg, Int.reduceLT, Int.reduceLE, Int.reduceEq, Int.reduceDiv, Int.reduceMod, Nat.reduceAdd, Nat.reduceMul, ↓reduceIte, u_eq, u_no, u_nk, u_ek, u_2, u_3, j_1, j_3, j_eq, j_no, j_nk, lt_def, Option.bind_some, upto, List.filter_cons, ih, List.length_cons, Int.natCast_add, Int.natCast_one]
      rw [Int.add_assoc, Int.add_comm 1]
    | false =>
      have e' : go B G m (i % bW B) (i / bW B) = false := e
      have ih := ih F (i + 1) a (by omega) (by omega) (by omega)
      simp (disch := omega) only [f_X10_movesOf_L4, hpl, hc, e, e', bI_f, n_i8, n_i16, n_0, n_31, n_add, n_sub, n_mul, n_neg, n_div, n_rem, n_le_t, n_le_f, n_lt_t, n_lt_f, n_eq_t, n_eq_f, n_cl, n_gd, n_gdt, n_nz, Int.reduceToNat, Int.reduceAdd, Int.reduceSub, Int.reduceMul, Int.reduceNeg, Int.reduceLT, Int.reduceLE, Int.reduceEq, Int.reduceDiv, Int.reduceMod, Nat.reduceAdd, Nat.reduceMul, ↓reduceIte, u_eq, u_no, u_nk, u_ek, u_2, u_3, j_1, j_3, j_eq, j_no, j_nk, lt_def, Option.bind_some, upto, List.filter_cons, ih, Bool.false_eq_true]
theorem m_movesOf {B : Brd} {G : Gam} {s : ST} (h : MA B G s) {m : Int} (h1 : 0 ≤ m) (h2 : m < bM B) : f_X10_movesOf (Int32.ofInt m) s = some (Int32.ofInt (nMov B G m), s) := by
  have hW : bW B ≤ 5 := h.1.1.1.2.1; have hH : bH B ≤ 5 := h.1.1.1.2.2.2.1; have hW0 : 0 ≤ bW B := h.1.1.1.1; have hH0 : 0 ≤ bH B := h.1.1.1.2.2.1; have hWH : bW B * bH B ≤ 25 := (Int.mul_le_mul hW hH hH0 (by omega)); have hWH0 : 0 ≤ bW B * bH B := Int.mul_nonneg hW0 hH0
  have := m_movesOf_L h h1 h2 (bW B * bH B).toNat fuel 0 0 (by omega) (by omega) (by unfold fuel; omega)
  rw [Int.zero_add] at this
  exact this
theorem upto_len : ∀ {n : Nat} {i : Int}, (upto n i).length = n
  | 0, _ => rfl
  | n + 1, i => by simp only [upto, List.length_cons, upto_len]
theorem nMov_b {B : Brd} {G : Gam} {s : ST} (h : MA B G s) (m : Int) : 0 ≤ nMov B G m ∧ nMov B G m ≤ 25 := by
  have hW : bW B ≤ 5 := h.1.1.1.2.1; have hH : bH B ≤ 5 := h.1.1.1.2.2.2.1; have hW0 : 0 ≤ bW B := h.1.1.1.1; have hH0 : 0 ≤ bH B := h.1.1.1.2.2.1; have hWH : bW B * bH B ≤ 25 := (Int.mul_le_mul hW hH hH0 (by omega)); have hWH0 : 0 ≤ bW B * bH B := Int.mul_nonneg hW0 hH0
  have h1 : (ks B G m).length ≤ (sqs B).length := List.length_filter_le _ _
  have h2 : (sqs B).length = (bW B * bH B).toNat := upto_len
  unfold nMov
  omega
def isCr (B : Brd) (m : Int) : Bool := decide (cr B (kd B m) = 1)
def tk (G : Gam) (m : Int) : Bool := decide (gx G m = -1)
def ct (B : Brd) (G : Gam) : Bool := (mens B).any (fun m => isCr B m && tk G m)
def hasMv (B : Brd) (G : Gam) : Bool := (mens B).any (fun m => decide (sd B m = gs G) && decide (0 < nMov B G m))
theorem m_side {B : Brd} {G : Gam} {s : ST} (h : MA B G s) : s.1 112 1 = Int32.ofInt (gs G) := h.2.2.2.1.2
theorem m_day {B : Brd} {G : Gam} {s : ST} (h : MA B G s) : s.1 112 0 = Int32.ofInt (gd_ G) := h.2.2.2.1.1
theorem m_hasMove_L {B : Brd} {G : Gam} {s : ST} (h : MA B G s) : ∀ (n F : Nat) (i : Int), 0 ≤ i → (n : Int) = bM B - i → n < F → f_X10_hasMove_L2 F (Int32.ofInt i) s = some (bI ((upto n i).any (fun m => decide (sd B m = gs G) && decide (0 < nMov B G m))), s) := by
  intro n
  have hmm := m_manMany h
  have hsd := m_side h
  have hgs := h.2.1.1.2.2
  have hM : bM B ≤ 8 := h.1.1.1.2.2.2.2.2.2.2.1; have hM0 : 0 ≤ bM B := h.1.1.1.2.2.2.2.2.2.1
  induction n with
  | zero =>
    intro F i h0 hn hF
    obtain ⟨F, rfl⟩ : ∃ F', F = F' + 1 := ⟨F - 1, by omega⟩
    simp (disch := omega) only [f_X10_hasMove_L2, hmm, n_i8, n_i16, n_0, n_31, n_add, n_sub, n_mul, n_neg, n_div, n_rem, n_le_t, n_le_f, n_lt_t, n_lt_f, n_eq_t, n_eq_f, n_cl, n_gd, n_gdt, n_nz, Int.reduceToNat, Int.reduceAdd, Int.reduceSub, Int.reduceMul, Int.reduceNeg, Int.reduceLT, Int.reduceLE, Int.reduceEq, Int.reduceDiv, Int.reduceMod, Nat.reduceAdd, Nat.reduceMul, ↓reduceIte, u_eq, u_no, u_nk, u_ek, u_2, u_3, j_1, j_3, j_eq, j_no, j_nk, lt_def, Option.bind_some, upto, List.any_nil, bI_f]
  | succ n ih =>
    intro F i h0 hn hF
    obtain ⟨F, rfl⟩ : ∃ F', F = F' + 1 := ⟨F - 1, by omega⟩
    have ih := ih F (i + 1) (by omega) (by omega) (by omega)
    have hs := m_sideOf h h0 (show i < bM B by omega)
    have hv := m_movesOf h h0 (show i < bM B by omega)
    have hvb := nMov_b h i
    have hb := h.1.2.2.1 i h0 (by omega)
    by_cases e1 : sd B i = gs G
    · by_cases e2 : 0 < nMov B G i
      · simp (disch := omega) only [f_X10_hasMove_L2, hmm, hs, hv, hsd, n_i8, n_i16, n_0, n_31, n_add, n_sub, n_mul, n_neg, n_div, n_rem, n_le_t, n_le_f, n_lt_t, n_lt_f, n_eq_t, n_eq_f, n_cl, n_gd, n_gdt, n_nz, Int.reduceToNat, Int.reduceAdd, Int.reduceSub, Int.reduceMul, Int.reduceNeg, Int.reduceLT, Int.reduceLE, Int.reduceEq, Int.reduceDiv, Int.reduceMod, Nat.reduceAdd, Nat.reduceMul, ↓reduceIte, u_eq, u_no, u_nk, u_ek, u_2, u_3, j_1, j_3, j_eq, j_no, j_nk, lt_def, Option.bind_some, upto, List.any_cons, e1, e2, decide_true, Bool.and_self, Bool.true_or, bI_t]
      · simp (disch := omega) only [f_X10_hasMove_L2, hmm, hs, hv, hsd, n_i8, n_i16, n_0, n_31, n_add, n_sub, n_mul, n_neg, n_div, n_rem, n_le_t, n_le_f, n_lt_t, n_lt_f, n_eq_t, n_eq_f, n_cl, n_gd, n_gdt, n_nz, Int.reduceToNat, Int.reduceAdd, Int.reduceSub, Int.reduceMul, Int.reduceNeg, Int.reduceLT, Int.reduceLE, Int.reduceEq, Int.reduceDiv, Int.reduceMod, Nat.reduceAdd, Nat.reduceMul, ↓reduceIte, u_eq, u_no, u_nk, u_ek, u_2, u_3, j_1, j_3, j_eq, j_no, j_nk, lt_def, Option.bind_some, upto, List.any_cons, e1, e2, decide_false, Bool.and_false, Bool.false_or, ih]
    · simp (disch := omega) only [f_X10_hasMove_L2, hmm, hs, hsd, n_i8, n_i16, n_0, n_31, n_add, n_sub, n_mul, n_neg, n_div, n_rem, n_le_t, n_le_f, n_lt_t, n_lt_f, n_eq_t, n_eq_f, n_cl, n_gd, n_gdt, n_nz, Int.reduceToNat, Int.reduceAdd, Int.reduceSub, Int.reduceMul, Int.reduceNeg, Int.reduceLT, Int.reduceLE, Int.reduceEq, Int.reduceDiv, Int.reduceMod, Nat.reduceAdd, Nat.reduceMul, ↓reduceIte, u_eq, u_no, u_nk, u_ek, u_2, u_3, j_1, j_3, j_eq, j_no, j_nk, lt_def, Option.bind_some, upto, List.any_cons, e1, decide_false, Bool.false_and, Bool.false_or, ih]
theorem m_hasMove {B : Brd} {G : Gam} {s : ST} (h : MA B G s) : f_X10_hasMove s = some (bI (hasMv B G), s) := by
  have hM : bM B ≤ 8 := h.1.1.1.2.2.2.2.2.2.2.1; have hM0 : 0 ≤ bM B := h.1.1.1.2.2.2.2.2.2.1
  exact m_hasMove_L h (bM B).toNat fuel 0 (by omega) (by omega) (by unfold fuel; omega)
theorem m_isCrownTaken_L {B : Brd} {G : Gam} {s : ST} (h : MA B G s) : ∀ (n F : Nat) (i : Int), 0 ≤ i → (n : Int) = bM B - i → n < F → f_X10_isCrownTaken_L2 F (Int32.ofInt i) s = some (bI ((upto n i).any (fun m => isCr B m && tk G m)), s) := by
  intro n
  have hmm := m_manMany h
  have hM : bM B ≤ 8 := h.1.1.1.2.2.2.2.2.2.2.1; have hM0 : 0 ≤ bM B := h.1.1.1.2.2.2.2.2.2.1
  induction n with
  | zero =>
    intro F i h0 hn hF
    obtain ⟨F, rfl⟩ : ∃ F', F = F' + 1 := ⟨F - 1, by omega⟩
    simp (disch := omega) only [f_X10_isCrownTaken_L2, hmm, n_i8, n_i16, n_0, n_31, n_add, n_sub, n_mul, n_neg, n_div, n_rem, n_le_t, n_le_f, n_lt_t, n_lt_f, n_eq_t, n_eq_f, n_cl, n_gd, n_gdt, n_nz, Int.reduceToNat, Int.reduceAdd, Int.reduceSub, Int.reduceMul, Int.reduceNeg, Int.reduceLT, Int.reduceLE, Int.reduceEq, Int.reduceDiv, Int.reduceMod, Nat.reduceAdd, Nat.reduceMul, ↓reduceIte, u_eq, u_no, u_nk, u_ek, u_2, u_3, j_1, j_3, j_eq, j_no, j_nk, lt_def, Option.bind_some, upto, List.any_nil, bI_f]
  | succ n ih =>
    intro F i h0 hn hF
    obtain ⟨F, rfl⟩ : ∃ F', F = F' + 1 := ⟨F - 1, by omega⟩
    have ih := ih F (i + 1) (by omega) (by omega) (by omega)
    have hs : f_X10_isCrown (Int32.ofInt i) s = some (bI (isCr B i), s) := m_isCrown h h0 (show i < bM B by omega)
    have hv : f_X10_isTaken (Int32.ofInt i) s = some (bI (tk G i), s) := m_isTaken h h0 (show i < bM B by omega)
    cases e1 : isCr B i with
    | true =>
      cases e2 : tk G i with
      | true => simp (disch := omega) only [f_X10_isCrownTaken_L2, hmm, hs, hv, n_i8, n_i16, n_0, n_31, n_add, n_sub, n_mul, n_neg, n_div, n_rem, n_le_t, n_le_f, n_lt_t, n_lt_f, n_eq_t, n_eq_f, n_cl, n_gd, n_gdt, n_nz, Int.reduceToNat, Int.reduceAdd, Int.reduceSub, Int.reduceMul, Int.reduceNeg, Int.reduceLT, Int.reduceLE, Int.reduceEq, Int.reduceDiv, Int.reduceMod, Nat.reduceAdd, Nat.reduceMul, ↓reduceIte, u_eq, u_no, u_nk, u_ek, u_2, u_3, j_1, j_3, j_eq, j_no, j_nk, lt_def, Option.bind_some, upto, List.any_cons, e1, e2, Bool.and_self, Bool.true_or, bI_t]
      | false => simp (disch := omega) only [f_X10_isCrownTaken_L2, hmm, hs, hv, n_i8, n_i16, n_0, n_31, n_add, n_sub, n_mul, n_neg, n_div, n_rem, n_le_t, n_le_f, n_lt_t, n_lt_f, n_eq_t, n_eq_f, n_cl, n_gd, n_gdt, n_nz, Int.reduceToNat, Int.reduceAdd, Int.reduceSub, Int.reduceMul, Int.reduceNeg, Int.reduceLT, Int.reduceLE, Int.reduceEq, Int.reduceDiv, Int.reduceMod, Nat.reduceAdd, Nat.reduceMul, ↓reduceIte, u_eq, u_no, u_nk, u_ek, u_2, u_3, j_1, j_3, j_eq, j_no, j_nk, lt_def, Option.bind_some, upto, List.any_cons, e1, e2, Bool.and_false, Bool.false_or, bI_t, bI_f, ih]
    | false => simp (disch := omega) only [f_X10_isCrownTaken_L2, hmm, hs, n_i8, n_i16, n_0, n_31, n_add, n_sub, n_mul, n_neg, n_div, n_rem, n_le_t, n_le_f, n_lt_t, n_lt_f, n_eq_t, n_eq_f, n_cl, n_gd, n_gdt, n_nz, Int.reduceToNat, Int.reduceAdd, Int.reduceSub, Int.reduceMul, Int.reduceNeg, Int.reduceLT, Int.reduceLE, Int.reduceEq, Int.reduceDiv, Int.reduceMod, Nat.reduceAdd, Nat.reduceMul, ↓reduceIte, u_eq, u_no, u_nk, u_ek, u_2, u_3, j_1, j_3, j_eq, j_no, j_nk, lt_def, Option.bind_some, upto, List.any_cons, e1, Bool.false_and, Bool.false_or, bI_f, ih]
theorem m_isCrownTaken {B : Brd} {G : Gam} {s : ST} (h : MA B G s) : f_X10_isCrownTaken s = some (bI (ct B G), s) := by
  have hM : bM B ≤ 8 := h.1.1.1.2.2.2.2.2.2.2.1; have hM0 : 0 ≤ bM B := h.1.1.1.2.2.2.2.2.2.1
  exact m_isCrownTaken_L h (bM B).toNat fuel 0 (by omega) (by omega) (by unfold fuel; omega)
def ovr (B : Brd) (G : Gam) : Bool := ct B G || !hasMv B G
theorem m_isOver {B : Brd} {G : Gam} {s : ST} (h : MA B G s) : f_X10_isOver s = some (bI (ovr B G), s) := by
  have h1 := m_isCrownTaken h
  have h2 := m_hasMove h
  unfold ovr
  cases e1 : ct B G <;> cases e2 : hasMv B G <;> rw [e1] at h1 <;> rw [e2] at h2 <;> simp (disch := omega) only [f_X10_isOver, h1, h2, n_i8, n_i16, n_0, n_31, n_add, n_sub, n_mul, n_neg, n_div, n_rem, n_le_t, n_le_f, n_lt_t, n_lt_f, n_eq_t, n_eq_f, n_cl, n_gd, n_gdt, n_nz, Int.reduceToNat, Int.reduceAdd, Int.reduceSub, Int.reduceMul, Int.reduceNeg, Int.reduceLT, Int.reduceLE, Int.reduceEq, Int.reduceDiv, Int.reduceMod, Nat.reduceAdd, Nat.reduceMul, ↓reduceIte, u_eq, u_no, u_nk, u_ek, u_2, u_3, j_1, j_3, j_eq, j_no, j_nk, lt_def, Option.bind_some, bI_t, bI_f, Bool.not_true, Bool.not_false, Bool.or_true, Bool.true_or, Bool.or_false, Bool.or_self]
def bal1 (B : Brd) (G : Gam) (t m : Int) : Int := if gx G m = -1 then 0 else if sd B m = t then wo B (kd B m) else -wo B (kd B m)
def bal (B : Brd) (G : Gam) (t : Int) : Int := smL (bal1 B G t) (mens B)
theorem bal_b {B : Brd} {G : Gam} {s : ST} (h : MA B G s) (t : Int) : ∀ (n : Nat) (i : Int), 0 ≤ i → (n : Int) = bM B - i → -99 * n ≤ smL (bal1 B G t) (upto n i) ∧ smL (bal1 B G t) (upto n i) ≤ 99 * n := by
  intro n
  induction n with
  | zero => intro i _ _; simp [upto, smL]
  | succ n ih =>
    intro i h0 hn
    have := ih (i + 1) (by omega) (by omega)
    have hb := h.1.2.2.1 i h0 (by omega)
    have hk := h.1.2.1 (kd B i) hb.1 hb.2.1
    have e : -99 ≤ bal1 B G t i ∧ bal1 B G t i ≤ 99 := by unfold bal1; split; omega; split <;> omega
    simp only [upto, smL]
    omega
theorem m_balanceOf_L {B : Brd} {G : Gam} {s : ST} (h : MA B G s) {t : Int} (ht0 : 0 ≤ t) (ht1 : t ≤ 1) : ∀ (n F : Nat) (i a : Int), 0 ≤ i → (n : Int) = bM B - i → n < F → f_X10_balanceOf_L4 F (Int32.ofInt t) (Int32.ofInt a) (Int32.ofInt i) s = some (Int32.ofInt (a + smL (bal1 B G t) (upto n i)), s) := by
  intro n
  have hmm := m_manMany h
  have hM : bM B ≤ 8 := h.1.1.1.2.2.2.2.2.2.2.1; have hM0 : 0 ≤ bM B := h.1.1.1.2.2.2.2.2.2.1
  induction n with
  | zero =>
    intro F i a h0 hn hF
    obtain ⟨F, rfl⟩ : ∃ F', F = F' + 1 := ⟨F - 1, by omega⟩
    simp (disch := omega) only [f_X10_balanceOf_L4, hmm, n_i8, n_i16, n_0, n_31, n_add, n_sub, n_mul, n_neg, n_div, n_rem, n_le_t, n_le_f, n_lt_t, n_lt_f, n_eq_t, n_eq_f, n_cl, n_gd, n_gdt, n_nz, Int.reduceToNat, Int.reduceAdd, Int.reduceSub, Int.reduceMul, Int.reduceNeg, Int.reduceLT, Int.reduceLE, Int.reduceEq, Int.reduceDiv, Int.reduceMod, Nat.reduceAdd, Nat.reduceMul, ↓reduceIte, u_eq, u_no, u_nk, u_ek, u_2, u_3, j_1, j_3, j_eq, j_no, j_nk, lt_def, Option.bind_some, upto, smL, Int.add_zero]
  | succ n ih =>
    intro F i a h0 hn hF
    obtain ⟨F, rfl⟩ : ∃ F', F = F' + 1 := ⟨F - 1, by omega⟩
    have hs := m_sideOf h h0 (show i < bM B by omega)
    have hv := m_isTaken h h0 (show i < bM B by omega)
    have hw := m_worthOf h h0 (show i < bM B by omega)
    have hb := h.1.2.2.1 i h0 (by omega)
    by_cases e1 : gx G i = -1
    · have ih := ih F (i + 1) a (by omega) (by omega) (by omega)
      have hz : bal1 B G t i = 0 := by unfold bal1; rw [if_pos e1]
      simp (disch := omega) only [f_X10_balanceOf_L4, hmm, hv, n_i8, n_i16, n_0, n_31, n_add, n_sub, n_mul, n_neg, n_div, n_rem, n_le_t, n_le_f, n_lt_t, n_lt_f, n_eq_t, n_eq_f, n_cl, n_gd, n_gdt, n_nz, Int.reduceToNat, Int.reduceAdd, Int.reduceSub, Int.reduceMul, Int.reduceNeg, Int.reduceLT, Int.reduceLE, Int.reduceEq, Int.reduceDiv, Int.reduceMod, Nat.reduceAdd, Nat.reduceMul, ↓reduceIte, u_eq, u_no, u_nk, u_ek, u_2, u_3, j_1, j_3, j_eq, j_no, j_nk, lt_def, Option.bind_some, upto, smL, hz, e1, decide_true, bI_t, ih, Int.zero_add]
    · by_cases e2 : sd B i = t
      · have ih := ih F (i + 1) (a + wo B (kd B i)) (by omega) (by omega) (by omega)
        have hz : bal1 B G t i = wo B (kd B i) := by unfold bal1; rw [if_neg e1, if_pos e2]
        simp (disch := omega) only [f_X10_balanceOf_L4, f_X10_balanceOf_j44, hmm, hv, hs, hw, n_i8, n_i16, n_0, n_31, n_add, n_sub, n_mul, n_neg, n_div, n_rem, n_le_t, n_le_f, n_lt_t, n_lt_f, n_eq_t, n_eq_f, n_cl, n_gd, n_gdt, n_nz, Int.reduceToNat, Int.reduceAdd, Int.reduceSub, Int.reduceMul, Int.reduceNeg, Int.reduceLT, Int.reduceLE, Int.reduceEq, Int.reduceDiv, Int.reduceMod, Nat.reduceAdd, Nat.reduceMul, ↓reduceIte, u_eq, u_no, u_nk, u_ek, u_2, u_3, j_1, j_3, j_eq, j_no, j_nk, lt_def, Option.bind_some, upto, smL, hz, e1, e2, decide_false, bI_f, ih, Int.add_assoc]
      · have ih := ih F (i + 1) (a + -wo B (kd B i)) (by omega) (by omega) (by omega)
        have hz : bal1 B G t i = -wo B (kd B i) := by unfold bal1; rw [if_neg e1, if_neg e2]
        simp (disch := omega) only [f_X10_balanceOf_L4, f_X10_balanceOf_j44, hmm, hv, hs, hw, n_i8, n_i16, n_0, n_31, n_add, n_sub, n_mul, n_neg, n_div, n_rem, n_le_t, n_le_f, n_lt_t, n_lt_f, n_eq_t, n_eq_f, n_cl, n_gd, n_gdt, n_nz, Int.reduceToNat, Int.reduceAdd, Int.reduceSub, Int.reduceMul, Int.reduceNeg, Int.reduceLT, Int.reduceLE, Int.reduceEq, Int.reduceDiv, Int.reduceMod, Nat.reduceAdd, Nat.reduceMul, ↓reduceIte, u_eq, u_no, u_nk, u_ek, u_2, u_3, j_1, j_3, j_eq, j_no, j_nk, lt_def, Option.bind_some, upto, smL, hz, e1, e2, decide_false, bI_f, ih, Int.add_assoc]
theorem m_balanceOf {B : Brd} {G : Gam} {s : ST} (h : MA B G s) {t : Int} (ht0 : 0 ≤ t) (ht1 : t ≤ 1) : f_X10_balanceOf (Int32.ofInt t) s = some (Int32.ofInt (bal B G t), s) := by
  have hM : bM B ≤ 8 := h.1.1.1.2.2.2.2.2.2.2.1; have hM0 : 0 ≤ bM B := h.1.1.1.2.2.2.2.2.2.1
  have := m_balanceOf_L h ht0 ht1 (bM B).toNat fuel 0 0 (by omega) (by omega) (by unfold fuel; omega)
  rw [Int.zero_add] at this
  exact this
theorem m_value0 {B : Brd} {G : Gam} {s : ST} (h : MA B G s) : f_X10_value0 s = some (Int32.ofInt (bal B G (gs G)), s) := by
  have hsd := m_side h
  have hgs := h.2.1.1.2.2
  have hb := m_balanceOf h hgs.1 hgs.2
  simp (disch := omega) only [f_X10_value0, hsd, hb, n_i8, n_i16, n_0, n_31, n_add, n_sub, n_mul, n_neg, n_div, n_rem, n_le_t, n_le_f, n_lt_t, n_lt_f, n_eq_t, n_eq_f, n_cl, n_gd, n_gdt, n_nz, Int.reduceToNat, Int.reduceAdd, Int.reduceSub, Int.reduceMul, Int.reduceNeg, Int.reduceLT, Int.reduceLE, Int.reduceEq, Int.reduceDiv, Int.reduceMod, Nat.reduceAdd, Nat.reduceMul, ↓reduceIte, u_eq, u_no, u_nk, u_ek, u_2, u_3, j_1, j_3, j_eq, j_no, j_nk, lt_def, Option.bind_some]
def mvN1 (B : Brd) (G : Gam) (m : Int) : Int := if sd B m = gs G then nMov B G m else 0
def mvN (B : Brd) (G : Gam) : Int := if ct B G = true then 0 else smL (mvN1 B G) (mens B)
theorem m_movesNow_L {B : Brd} {G : Gam} {s : ST} (h : MA B G s) : ∀ (n F : Nat) (i a : Int), 0 ≤ i → (n : Int) = bM B - i → n < F → f_X10_movesNow_L13 F (Int32.ofInt a) (Int32.ofInt i) s = some (Int32.ofInt (a + smL (mvN1 B G) (upto n i)), s) := by
  intro n
  have hmm := m_manMany h
  have hsd := m_side h
  have hgs := h.2.1.1.2.2
  have hM : bM B ≤ 8 := h.1.1.1.2.2.2.2.2.2.2.1; have hM0 : 0 ≤ bM B := h.1.1.1.2.2.2.2.2.2.1
  induction n with
  | zero =>
    intro F i a h0 hn hF
    obtain ⟨F, rfl⟩ : ∃ F', F = F' + 1 := ⟨F - 1, by omega⟩
    simp (disch := omega) only [f_X10_movesNow_L13, hmm, n_i8, n_i16, n_0, n_31, n_add, n_sub, n_mul, n_neg, n_div, n_rem, n_le_t, n_le_f, n_lt_t, n_lt_f, n_eq_t, n_eq_f, n_cl, n_gd, n_gdt, n_nz, Int.reduceToNat, Int.reduceAdd, Int.reduceSub, Int.reduceMul, Int.reduceNeg, Int.reduceLT, Int.reduceLE, Int.reduceEq, Int.reduceDiv, Int.reduceMod, Nat.reduceAdd, Nat.reduceMul, ↓reduceIte, u_eq, u_no, u_nk, u_ek, u_2, u_3, j_1, j_3, j_eq, j_no, j_nk, lt_def, Option.bind_some, upto, smL, Int.add_zero]
  | succ n ih =>
    intro F i a h0 hn hF
    obtain ⟨F, rfl⟩ : ∃ F', F = F' + 1 := ⟨F - 1, by omega⟩
    have hs := m_sideOf h h0 (show i < bM B by omega)
    have hv := m_movesOf h h0 (show i < bM B by omega)
    have hb := h.1.2.2.1 i h0 (by omega)
    by_cases e1 : sd B i = gs G
    · have ih := ih F (i + 1) (a + nMov B G i) (by omega) (by omega) (by omega)
      have hz : mvN1 B G i = nMov B G i := by unfold mvN1; rw [if_pos e1]
      simp (disch := omega) only [f_X10_movesNow_L13, hmm, hv, hs, hsd, n_i8, n_i16, n_0, n_31, n_add, n_sub, n_mul, n_neg, n_div, n_rem, n_le_t, n_le_f, n_lt_t, n_lt_f, n_eq_t, n_eq_f, n_cl, n_gd, n_gdt, n_nz, Int.reduceToNat, Int.reduceAdd, Int.reduceSub, Int.reduceMul, Int.reduceNeg, Int.reduceLT, Int.reduceLE, Int.reduceEq, Int.reduceDiv, Int.reduceMod, Nat.reduceAdd, Nat.reduceMul, ↓reduceIte, u_eq, u_no, u_nk, u_ek, u_2, u_3, j_1, j_3, j_eq, j_no, j_nk, lt_def, Option.bind_some, upto, smL, hz, e1, ih, Int.add_assoc]
    · have ih := ih F (i + 1) a (by omega) (by omega) (by omega)
      have hz : mvN1 B G i = 0 := by unfold mvN1; rw [if_neg e1]
      simp (disch := omega) only [f_X10_movesNow_L13, hmm, hv, hs, hsd, n_i8, n_i16, n_0, n_31, n_add, n_sub, n_mul, n_neg, n_div, n_rem, n_le_t, n_le_f, n_lt_t, n_lt_f, n_eq_t, n_eq_f, n_cl, n_gd, n_gdt, n_nz, Int.reduceToNat, Int.reduceAdd, Int.reduceSub, Int.reduceMul, Int.reduceNeg, Int.reduceLT, Int.reduceLE, Int.reduceEq, Int.reduceDiv, Int.reduceMod, Nat.reduceAdd, Nat.reduceMul, ↓reduceIte, u_eq, u_no, u_nk, u_ek, u_2, u_3, j_1, j_3, j_eq, j_no, j_nk, lt_def, Option.bind_some, upto, smL, hz, e1, ih, Int.zero_add]
theorem m_movesNow {B : Brd} {G : Gam} {s : ST} (h : MA B G s) : f_X10_movesNow s = some (Int32.ofInt (mvN B G), s) := by
  have hM : bM B ≤ 8 := h.1.1.1.2.2.2.2.2.2.2.1; have hM0 : 0 ≤ bM B := h.1.1.1.2.2.2.2.2.2.1
  have h1 := m_isCrownTaken h
  unfold mvN
  cases e : ct B G with
  | true =>
    rw [e] at h1
    simp (disch := omega) only [f_X10_movesNow, h1, bI_t, n_i8, n_i16, n_0, n_31, n_add, n_sub, n_mul, n_neg, n_div, n_rem, n_le_t, n_le_f, n_lt_t, n_lt_f, n_eq_t, n_eq_f, n_cl, n_gd, n_gdt, n_nz, Int.reduceToNat, Int.reduceAdd, Int.reduceSub, Int.reduceMul, Int.reduceNeg, Int.reduceLT, Int.reduceLE, Int.reduceEq, Int.reduceDiv, Int.reduceMod, Nat.reduceAdd, Nat.reduceMul, ↓reduceIte, u_eq, u_no, u_nk, u_ek, u_2, u_3, j_1, j_3, j_eq, j_no, j_nk, lt_def, Option.bind_some]
  | false =>
    rw [e] at h1
    have := m_movesNow_L h (bM B).toNat fuel 0 0 (by omega) (by omega) (by unfold fuel; omega)
    rw [Int.zero_add] at this
    simp (disch := omega) only [f_X10_movesNow, h1, bI_f, n_i8, n_i16, n_0, n_31, n_add, n_sub, n_mul, n_neg, n_div, n_rem, n_le_t, n_le_f, n_lt_t, n_lt_f, n_eq_t, n_eq_f, n_cl, n_gd, n_gdt, n_nz, Int.reduceToNat, Int.reduceAdd, Int.reduceSub, Int.reduceMul, Int.reduceNeg, Int.reduceLT, Int.reduceLE, Int.reduceEq, Int.reduceDiv, Int.reduceMod, Nat.reduceAdd, Nat.reduceMul, ↓reduceIte, u_eq, u_no, u_nk, u_ek, u_2, u_3, j_1, j_3, j_eq, j_no, j_nk, lt_def, Option.bind_some, this, mens, Bool.false_eq_true]
