/-! L3: the ways of the reference -/
/-- the goal's cells -/
def MGo (B : Brd) (ax ay : Int → Int) (s : ST) : Prop := ∀ m : Int, 0 ≤ m → m < bM B → s.1 121 (2 * m).toNat = Int32.ofInt (ax m) ∧ s.1 121 (2 * m + 1).toNat = Int32.ofInt (ay m)
def Ax (B : Brd) (ax ay : Int → Int) : Prop := ∀ m : Int, 0 ≤ m → m < bM B → -1 ≤ ax m ∧ ax m ≤ 5 ∧ -1 ≤ ay m ∧ ay m ≤ 5
theorem MGo_Sc {B : Brd} {ax ay : Int → Int} {a b : Int} {s s' : ST} (h : MGo B ax ay s) (hs : Sc a b s s') : MGo B ax ay s' := by
  intro m h1 h2
  rw [hs.1 121 _ (by omega), hs.1 121 _ (by omega)]
  exact h m h1 h2
theorem MGo_DF {B : Brd} {ax ay : Int → Int} {L : Int} {s s' : ST} (h : MGo B ax ay s) (hs : DF L s s') : MGo B ax ay s' := by
  intro m h1 h2
  rw [hs.1 121 _ (by omega) (by omega), hs.1 121 _ (by omega) (by omega)]
  exact h m h1 h2
def asAim (G : Gam) (ax ay : Int → Int) (m : Int) : Bool := decide (gx G m = ax m ∧ gy G m = ay m)
theorem m_ways0_L {B : Brd} {G : Gam} {s : ST} {ax ay : Int → Int} (h : MA B G s) (hg : MGo B ax ay s) (ha : Ax B ax ay) : ∀ (n F : Nat) (i : Int), 0 ≤ i → (n : Int) = bM B - i → 2 * n < F → f_X10_ways0_L2 F (Int32.ofInt (2 * i)) s = some (bI ((upto n i).all (asAim G ax ay)), s) := by
  intro n
  have hmm := m_manMany h
  have hM : bM B ≤ 8 := h.1.1.1.2.2.2.2.2.2.2.1; have hM0 : 0 ≤ bM B := h.1.1.1.2.2.2.2.2.2.1
  have hW : bW B ≤ 5 := h.1.1.1.2.1; have hH : bH B ≤ 5 := h.1.1.1.2.2.2.1; have hW0 : 0 ≤ bW B := h.1.1.1.1; have hH0 : 0 ≤ bH B := h.1.1.1.2.2.1; have hWH : bW B * bH B ≤ 25 := (Int.mul_le_mul hW hH hH0 (by omega)); have hWH0 : 0 ≤ bW B * bH B := Int.mul_nonneg hW0 hH0
  induction n with
  | zero =>
    intro F i h0 hn hF
    obtain ⟨F, rfl⟩ : ∃ F', F = F' + 1 := ⟨F - 1, by omega⟩
    simp (disch := omega) only [f_X10_ways0_L2, hmm, n_i8, n_i16, n_0, n_31, n_add, n_sub, n_mul, n_neg, n_div, n_rem, n_le_t, n_le_f, n_lt_t, n_lt_f, n_eq_t, n_eq_f, n_cl, n_gd, n_gdt, n_nz, Int.reduceToNat, Int.reduceAdd, Int.reduceSub, Int.reduceMul, Int.reduceNeg, Int.reduceLT, Int.reduceLE, Int.reduceEq, Int.reduceDiv, Int.reduceMod, Nat.reduceAdd, Nat.reduceMul, ↓reduceIte, u_eq, u_no, u_nk, u_ek, u_2, u_3, j_1, j_3, j_eq, j_no, j_nk, lt_def, Option.bind_some, upto, List.all_nil, bI_t]
  | succ n ih =>
    intro F i h0 hn hF
    obtain ⟨F, rfl⟩ : ∃ F', F = F' + 1 + 1 := ⟨F - 2, by omega⟩
    have ih := ih F (i + 1) (by omega) (by omega) (by omega)
    have g := h.2.2.2.2.1 i h0 (by omega)
    have g' := hg i h0 (by omega)
    have a := ha i h0 (by omega)
    have p := h.2.1.2.1 i h0 (by omega)
    have g2 : s.1 112 (2 + (2 * i + 1)).toNat = Int32.ofInt (gy G i) := by rw [← g.2, Int.add_assoc]
    by_cases e1 : gx G i = ax i
    · by_cases e2 : gy G i = ay i
      · have e3 : asAim G ax ay i = true := decide_eq_true ⟨e1, e2⟩
        have e4 : 2 * i + 1 + 1 = 2 * (i + 1) := by omega
        simp (disch := omega) only [f_X10_ways0_L2, hmm, n_i8, n_i16, n_0, n_31, n_add, n_sub, n_mul, n_neg, n_div, n_rem, n_le_t, n_le_f, n_lt_t, n_lt_f, n_eq_t, n_eq_f, n_cl, n_gd, n_gdt, n_nz, Int.reduceToNat, Int.reduceAdd, Int.reduceSub, Int.reduceMul, Int.reduceNeg, Int.reduceLT, Int.reduceLE, Int.reduceEq, Int.reduceDiv, Int.reduceMod, Nat.reduceAdd, Nat.reduceMul, ↓reduceIte, u_eq, u_no, u_nk, u_ek, u_2, u_3, j_1, j_3, j_eq, j_no, j_nk, lt_def, Option.bind_some, upto, List.all_cons, g.1, g2, g'.1, g'.2, e1, e2, e3, e4, Bool.true_and, ih]
      · have e3 : asAim G ax ay i = false := decide_eq_false (fun c => e2 c.2)
        simp (disch := omega) only [f_X10_ways0_L2, hmm, n_i8, n_i16, n_0, n_31, n_add, n_sub, n_mul, n_neg, n_div, n_rem, n_le_t, n_le_f, n_lt_t, n_lt_f, n_eq_t, n_eq_f, n_cl, n_gd, n_gdt, n_nz, Int.reduceToNat, Int.reduceAdd, Int.reduceSub, Int.reduceMul, Int.reduceNeg, Int.reduceLT, Int.reduceLE, Int.reduceEq, Int.reduceDiv, Int.reduceMod, Nat.reduceAdd, Nat.reduceMul, ↓reduceIte, u_eq, u_no, u_nk, u_ek, u_2, u_3, j_1, j_3, j_eq, j_no, j_nk, lt_def, Option.bind_some, upto, List.all_cons, g.1, g2, g'.1, g'.2, e1, e2, e3, Bool.false_and, bI_f]
    · have e3 : asAim G ax ay i = false := decide_eq_false (fun c => e1 c.1)
      simp (disch := omega) only [f_X10_ways0_L2, hmm, n_i8, n_i16, n_0, n_31, n_add, n_sub, n_mul, n_neg, n_div, n_rem, n_le_t, n_le_f, n_lt_t, n_lt_f, n_eq_t, n_eq_f, n_cl, n_gd, n_gdt, n_nz, Int.reduceToNat, Int.reduceAdd, Int.reduceSub, Int.reduceMul, Int.reduceNeg, Int.reduceLT, Int.reduceLE, Int.reduceEq, Int.reduceDiv, Int.reduceMod, Nat.reduceAdd, Nat.reduceMul, ↓reduceIte, u_eq, u_no, u_nk, u_ek, u_2, u_3, j_1, j_3, j_eq, j_no, j_nk, lt_def, Option.bind_some, upto, List.all_cons, g.1, g'.1, e1, e3, Bool.false_and, bI_f]
def wyB (c : Bool) : Int := if c = true then 1 else 0
theorem bI_wy (c : Bool) : bI c = Int32.ofInt (wyB c) := by cases c <;> rfl
def wstep (B : Brd) (f : Gam → Int) (G : Gam) (m : Int) (p : Int) (k : Int) : Int := if sd B m = gs G ∧ goK B G m k = true then p + f (mvK B G m k) else p
def wK (B : Brd) (f : Gam → Int) (G : Gam) (p : Int) (m : Int) : Int := (sqs B).foldl (wstep B f G m) p
def wys (B : Brd) (ax ay : Int → Int) : Nat → Gam → Int
  | 0, G => wyB ((mens B).all (asAim G ax ay))
  | d + 1, G => if ct B G = true then 0 else (mens B).foldl (wK B (wys B ax ay d) G) 0
theorem m_ways0S {B : Brd} {ax ay : Int → Int} (ha : Ax B ax ay) {G : Gam} {s : ST} (h : MA B G s) (hg : MGo B ax ay s) : ∃ s', f_X10_ways0 s = some (Int32.ofInt (wys B ax ay 0 G), s') ∧ Sc 1 0 s s' := by
  have hM : bM B ≤ 8 := h.1.1.1.2.2.2.2.2.2.2.1; have hM0 : 0 ≤ bM B := h.1.1.1.2.2.2.2.2.2.1
  have := m_ways0_L h hg ha (bM B).toNat fuel 0 (by omega) (by omega) (by unfold fuel; omega)
  rw [bI_wy] at this
  exact ⟨s, this, Sc.rf 1 0 s⟩

theorem m_ways1_L23 {B : Brd} {ax ay : Int → Int} (ha : Ax B ax ay) {G : Gam} {m : Int} (h1 : 0 ≤ m) (h2 : m < bM B) (K : Int32 → Int32 → ST → Option (Int32 × ST)) : ∀ (n F : Nat) (i : Int) (p : Int) (s : ST), MA B G s → MGo B ax ay s → 0 ≤ i → (n : Int) = bW B * bH B - i → n < F → ∃ s', Sc 1 1 s s' ∧ f_X10_ways1_L23 K F (Int32.ofInt p) (Int32.ofInt m) (Int32.ofInt i) s = K (Int32.ofInt ((upto n i).foldl (wstep B (wys B ax ay 0) G m) p)) (Int32.ofInt (m + 1)) s' := by
  intro n
  induction n with
  | zero =>
    intro F i p s h hg h0 hn hF
    obtain ⟨F, rfl⟩ : ∃ F', F = F' + 1 := ⟨F - 1, by omega⟩
    have hpl := m_places h
    have hW : bW B ≤ 5 := h.1.1.1.2.1; have hH : bH B ≤ 5 := h.1.1.1.2.2.2.1; have hW0 : 0 ≤ bW B := h.1.1.1.1; have hH0 : 0 ≤ bH B := h.1.1.1.2.2.1; have hWH : bW B * bH B ≤ 25 := (Int.mul_le_mul hW hH hH0 (by omega)); have hWH0 : 0 ≤ bW B * bH B := Int.mul_nonneg hW0 hH0
    refine ⟨s, Sc.rf _ _ s, ?_⟩
    simp (disch := omega) only [f_X10_ways1_L23, hpl, n_i8, n_i16, n_0, n_31, n_add, n_sub, n_mul, n_neg, n_div, n_rem, n_le_t, n_le_f, n_lt_t, n_lt_f, n_eq_t, n_eq_f, n_cl, n_gd, n_gdt, n_nz, Int.reduceToNat, Int.reduceAdd, Int.reduceSub, Int.reduceMul, Int.reduceNeg, Int.reduceLT, Int.reduceLE, Int.reduceEq, Int.reduceDiv, Int.reduceMod, Nat.reduceAdd, Nat.reduceMul, ↓reduceIte, u_eq, u_no, u_nk, u_ek, u_2, u_3, j_1, j_3, j_eq, j_no, j_nk, lt_def, Option.bind_some, upto, List.foldl_nil]
  | succ n ih =>
    intro F i p s h hg h0 hn hF
    obtain ⟨F, rfl⟩ : ∃ F', F = F' + 1 := ⟨F - 1, by omega⟩
    have hpl := m_places h
    have hs := m_sideOf h h1 h2
    have hsd := m_side h
    have hgs := h.2.1.1.2.2
    have hb := h.1.2.2.1 m h1 h2
    have hW : bW B ≤ 5 := h.1.1.1.2.1; have hH : bH B ≤ 5 := h.1.1.1.2.2.2.1; have hW0 : 0 ≤ bW B := h.1.1.1.1; have hH0 : 0 ≤ bH B := h.1.1.1.2.2.1; have hWH : bW B * bH B ≤ 25 := (Int.mul_le_mul hW hH hH0 (by omega)); have hWH0 : 0 ≤ bW B * bH B := Int.mul_nonneg hW0 hH0
    have hc : f_X10_canGo (Int32.ofInt m) (Int32.ofInt i) s = some (bI (goK B G m i), s) := m_canGo h h1 h2 h0 (show i < bW B * bH B by omega)
    simp only [upto, List.foldl_cons]
    by_cases e1 : sd B m = gs G
    · cases e2 : goK B G m i with
      | true =>
        have hv : wstep B (wys B ax ay 0) G m p i = p + wys B ax ay 0 (mvK B G m i) := by unfold wstep; rw [if_pos ⟨e1, e2⟩]
        obtain ⟨s1, q1, q2, qd, q3⟩ := m_try h (L := 1) (by omega) (by omega) h1 h2 h0 (by omega) e2
        obtain ⟨s2, q4, q5⟩ := m_ways0S ha q2 (MGo_DF hg qd)
        obtain ⟨s3, q6, q7⟩ := q3 s2 1 0 q5 (by omega) 1 1 (by omega) (by omega) (by omega) (by omega)
        have q4 : f_X10_ways0 s1 = some (Int32.ofInt (wys B ax ay 0 (mvK B G m i)), s2) := q4
        obtain ⟨s4, q8, q9⟩ := ih F (i + 1) (wstep B (wys B ax ay 0) G m p i) s3 (MA_Sc h q7) (MGo_Sc hg q7) (by omega) (by omega) (by omega)
        refine ⟨s4, q7.tr q8, ?_⟩
        rw [hv] at q9 ⊢
        rw [← q9]
        rw [e2] at hc
        simp (disch := omega) only [f_X10_ways1_L23, hpl, hs, hsd, e1, hc, q1, q4, q6, bI_t, n_i8, n_i16, n_0, n_31, n_add, n_sub, n_mul, n_neg, n_div, n_rem, n_le_t, n_le_f, n_lt_t, n_lt_f, n_eq_t, n_eq_f, n_cl, n_gd, n_gdt, n_nz, Int.reduceToNat, Int.reduceAdd, Int.reduceSub, Int.reduceMul, Int.reduceNeg, Int.reduceLT, Int.reduceLE, Int.reduceEq, Int.reduceDiv, Int.reduceMod, Nat.reduceAdd, Nat.reduceMul, ↓reduceIte, u_eq, u_no, u_nk, u_ek, u_2, u_3, j_1, j_3, j_eq, j_no, j_nk, lt_def, Option.bind_some]
      | false =>
        have hv : wstep B (wys B ax ay 0) G m p i = p := by unfold wstep; rw [if_neg (fun c => by rw [e2] at c; cases c.2)]
        obtain ⟨s4, q8, q9⟩ := ih F (i + 1) p s h hg (by omega) (by omega) (by omega)
        refine ⟨s4, q8, ?_⟩
        rw [hv, ← q9]
        rw [e2] at hc
        simp (disch := omega) only [f_X10_ways1_L23, hpl, hs, hsd, e1, hc, bI_f, n_i8, n_i16, n_0, n_31, n_add, n_sub, n_mul, n_neg, n_div, n_rem, n_le_t, n_le_f, n_lt_t, n_lt_f, n_eq_t, n_eq_f, n_cl, n_gd, n_gdt, n_nz, Int.reduceToNat, Int.reduceAdd, Int.reduceSub, Int.reduceMul, Int.reduceNeg, Int.reduceLT, Int.reduceLE, Int.reduceEq, Int.reduceDiv, Int.reduceMod, Nat.reduceAdd, Nat.reduceMul, ↓reduceIte, u_eq, u_no, u_nk, u_ek, u_2, u_3, j_1, j_3, j_eq, j_no, j_nk, lt_def, Option.bind_some]
    · have hv : wstep B (wys B ax ay 0) G m p i = p := by unfold wstep; rw [if_neg (fun c => e1 c.1)]
      obtain ⟨s4, q8, q9⟩ := ih F (i + 1) p s h hg (by omega) (by omega) (by omega)
      refine ⟨s4, q8, ?_⟩
      rw [hv, ← q9]
      simp (disch := omega) only [f_X10_ways1_L23, hpl, hs, hsd, e1, n_i8, n_i16, n_0, n_31, n_add, n_sub, n_mul, n_neg, n_div, n_rem, n_le_t, n_le_f, n_lt_t, n_lt_f, n_eq_t, n_eq_f, n_cl, n_gd, n_gdt, n_nz, Int.reduceToNat, Int.reduceAdd, Int.reduceSub, Int.reduceMul, Int.reduceNeg, Int.reduceLT, Int.reduceLE, Int.reduceEq, Int.reduceDiv, Int.reduceMod, Nat.reduceAdd, Nat.reduceMul, ↓reduceIte, u_eq, u_no, u_nk, u_ek, u_2, u_3, j_1, j_3, j_eq, j_no, j_nk, lt_def, Option.bind_some]
theorem m_ways1_L13 {B : Brd} {ax ay : Int → Int} (ha : Ax B ax ay) {G : Gam} : ∀ (n F : Nat) (i : Int) (p : Int) (s : ST), MA B G s → MGo B ax ay s → 0 ≤ i → (n : Int) = bM B - i → n < F → ∃ s', Sc 1 1 s s' ∧ f_X10_ways1_L13 F (Int32.ofInt p) (Int32.ofInt i) s = some (Int32.ofInt ((upto n i).foldl (wK B (wys B ax ay 0) G) p), s') := by
  intro n
  induction n with
  | zero =>
    intro F i p s h hg h0 hn hF
    obtain ⟨F, rfl⟩ : ∃ F', F = F' + 1 := ⟨F - 1, by omega⟩
    have hmm := m_manMany h
    have hM : bM B ≤ 8 := h.1.1.1.2.2.2.2.2.2.2.1; have hM0 : 0 ≤ bM B := h.1.1.1.2.2.2.2.2.2.1
    refine ⟨s, Sc.rf _ _ s, ?_⟩
    simp (disch := omega) only [f_X10_ways1_L13, hmm, n_i8, n_i16, n_0, n_31, n_add, n_sub, n_mul, n_neg, n_div, n_rem, n_le_t, n_le_f, n_lt_t, n_lt_f, n_eq_t, n_eq_f, n_cl, n_gd, n_gdt, n_nz, Int.reduceToNat, Int.reduceAdd, Int.reduceSub, Int.reduceMul, Int.reduceNeg, Int.reduceLT, Int.reduceLE, Int.reduceEq, Int.reduceDiv, Int.reduceMod, Nat.reduceAdd, Nat.reduceMul, ↓reduceIte, u_eq, u_no, u_nk, u_ek, u_2, u_3, j_1, j_3, j_eq, j_no, j_nk, lt_def, Option.bind_some, upto, List.foldl_nil]
  | succ n ih =>
    intro F i p s h hg h0 hn hF
    obtain ⟨F, rfl⟩ : ∃ F', F = F' + 1 := ⟨F - 1, by omega⟩
    have hmm := m_manMany h
    have hM : bM B ≤ 8 := h.1.1.1.2.2.2.2.2.2.2.1; have hM0 : 0 ≤ bM B := h.1.1.1.2.2.2.2.2.2.1
    have hW : bW B ≤ 5 := h.1.1.1.2.1; have hH : bH B ≤ 5 := h.1.1.1.2.2.2.1; have hW0 : 0 ≤ bW B := h.1.1.1.1; have hH0 : 0 ≤ bH B := h.1.1.1.2.2.1; have hWH : bW B * bH B ≤ 25 := (Int.mul_le_mul hW hH hH0 (by omega)); have hWH0 : 0 ≤ bW B * bH B := Int.mul_nonneg hW0 hH0
    obtain ⟨s1, q1, q2⟩ := m_ways1_L23 ha (G := G) h0 (show i < bM B by omega) (f_X10_ways1_L13 F) (bW B * bH B).toNat fuel 0 p s h hg (by omega) (by omega) (by unfold fuel; omega)
    have q2 : f_X10_ways1_L23 (f_X10_ways1_L13 F) fuel (Int32.ofInt p) (Int32.ofInt i) (Int32.ofInt 0) s = f_X10_ways1_L13 F (Int32.ofInt (wK B (wys B ax ay 0) G p i)) (Int32.ofInt (i + 1)) s1 := q2
    obtain ⟨s2, q3, q4⟩ := ih F (i + 1) (wK B (wys B ax ay 0) G p i) s1 (MA_Sc h q1) (MGo_Sc hg q1) (by omega) (by omega) (by omega)
    refine ⟨s2, q1.tr q3, ?_⟩
    simp only [upto, List.foldl_cons]
    rw [← q4, ← q2]
    simp (disch := omega) only [f_X10_ways1_L13, hmm, n_i8, n_i16, n_0, n_31, n_add, n_sub, n_mul, n_neg, n_div, n_rem, n_le_t, n_le_f, n_lt_t, n_lt_f, n_eq_t, n_eq_f, n_cl, n_gd, n_gdt, n_nz, Int.reduceToNat, Int.reduceAdd, Int.reduceSub, Int.reduceMul, Int.reduceNeg, Int.reduceLT, Int.reduceLE, Int.reduceEq, Int.reduceDiv, Int.reduceMod, Nat.reduceAdd, Nat.reduceMul, ↓reduceIte, u_eq, u_no, u_nk, u_ek, u_2, u_3, j_1, j_3, j_eq, j_no, j_nk, lt_def, Option.bind_some]
theorem m_ways1S {B : Brd} {ax ay : Int → Int} (ha : Ax B ax ay) {G : Gam} {s : ST} (h : MA B G s) (hg : MGo B ax ay s) : ∃ s', f_X10_ways1 s = some (Int32.ofInt (wys B ax ay 1 G), s') ∧ Sc 1 1 s s' := by
  have hct := m_isCrownTaken h
  have hM : bM B ≤ 8 := h.1.1.1.2.2.2.2.2.2.2.1; have hM0 : 0 ≤ bM B := h.1.1.1.2.2.2.2.2.2.1
  cases e : ct B G with
  | true =>
    rw [e] at hct
    refine ⟨s, ?_, Sc.rf _ _ s⟩
    have : wys B ax ay 1 G = 0 := by show (if ct B G = true then _ else _) = _; rw [if_pos e]
    rw [this]
    simp (disch := omega) only [f_X10_ways1, hct, bI_t, n_i8, n_i16, n_0, n_31, n_add, n_sub, n_mul, n_neg, n_div, n_rem, n_le_t, n_le_f, n_lt_t, n_lt_f, n_eq_t, n_eq_f, n_cl, n_gd, n_gdt, n_nz, Int.reduceToNat, Int.reduceAdd, Int.reduceSub, Int.reduceMul, Int.reduceNeg, Int.reduceLT, Int.reduceLE, Int.reduceEq, Int.reduceDiv, Int.reduceMod, Nat.reduceAdd, Nat.reduceMul, ↓reduceIte, u_eq, u_no, u_nk, u_ek, u_2, u_3, j_1, j_3, j_eq, j_no, j_nk, lt_def, Option.bind_some]
  | false =>
    rw [e] at hct
    obtain ⟨s1, q1, q2⟩ := m_ways1_L13 ha (G := G) (bM B).toNat fuel 0 0 s h hg (by omega) (by omega) (by unfold fuel; omega)
    refine ⟨s1, ?_, q1⟩
    have : wys B ax ay 1 G = (mens B).foldl (wK B (wys B ax ay 0) G) 0 := by show (if ct B G = true then _ else _) = _; rw [if_neg (by rw [e]; simp)]
    rw [this]
    simp (disch := omega) only [f_X10_ways1, hct, bI_f, n_i8, n_i16, n_0, n_31, n_add, n_sub, n_mul, n_neg, n_div, n_rem, n_le_t, n_le_f, n_lt_t, n_lt_f, n_eq_t, n_eq_f, n_cl, n_gd, n_gdt, n_nz, Int.reduceToNat, Int.reduceAdd, Int.reduceSub, Int.reduceMul, Int.reduceNeg, Int.reduceLT, Int.reduceLE, Int.reduceEq, Int.reduceDiv, Int.reduceMod, Nat.reduceAdd, Nat.reduceMul, ↓reduceIte, u_eq, u_no, u_nk, u_ek, u_2, u_3, j_1, j_3, j_eq, j_no, j_nk, lt_def, Option.bind_some]
    exact q2

theorem m_ways2_L23 {B : Brd} {ax ay : Int → Int} (ha : Ax B ax ay) {G : Gam} {m : Int} (h1 : 0 ≤ m) (h2 : m < bM B) (K : Int32 → Int32 → ST → Option (Int32 × ST)) : ∀ (n F : Nat) (i : Int) (p : Int) (s : ST), MA B G s → MGo B ax ay s → 0 ≤ i → (n : Int) = bW B * bH B - i → n < F → ∃ s', Sc 1 2 s s' ∧ f_X10_ways2_L23 K F (Int32.ofInt p) (Int32.ofInt m) (Int32.ofInt i) s = K (Int32.ofInt ((upto n i).foldl (wstep B (wys B ax ay 1) G m) p)) (Int32.ofInt (m + 1)) s' := by
  intro n
  induction n with
  | zero =>
    intro F i p s h hg h0 hn hF
    obtain ⟨F, rfl⟩ : ∃ F', F = F' + 1 := ⟨F - 1, by omega⟩
    have hpl := m_places h
    have hW : bW B ≤ 5 := h.1.1.1.2.1; have hH : bH B ≤ 5 := h.1.1.1.2.2.2.1; have hW0 : 0 ≤ bW B := h.1.1.1.1; have hH0 : 0 ≤ bH B := h.1.1.1.2.2.1; have hWH : bW B * bH B ≤ 25 := (Int.mul_le_mul hW hH hH0 (by omega)); have hWH0 : 0 ≤ bW B * bH B := Int.mul_nonneg hW0 hH0
    refine ⟨s, Sc.rf _ _ s, ?_⟩
    simp (disch := omega) only [f_X10_ways2_L23, hpl, n_i8, n_i16, n_0, n_31, n_add, n_sub, n_mul, n_neg, n_div, n_rem, n_le_t, n_le_f, n_lt_t, n_lt_f, n_eq_t, n_eq_f, n_cl, n_gd, n_gdt, n_nz, Int.reduceToNat, Int.reduceAdd, Int.reduceSub, Int.reduceMul, Int.reduceNeg, Int.reduceLT, Int.reduceLE, Int.reduceEq, Int.reduceDiv, Int.reduceMod, Nat.reduceAdd, Nat.reduceMul, ↓reduceIte, u_eq, u_no, u_nk, u_ek, u_2, u_3, j_1, j_3, j_eq, j_no, j_nk, lt_def, Option.bind_some, upto, List.foldl_nil]
  | succ n ih =>
    intro F i p s h hg h0 hn hF
    obtain ⟨F, rfl⟩ : ∃ F', F = F' + 1 := ⟨F - 1, by omega⟩
    have hpl := m_places h
    have hs := m_sideOf h h1 h2
    have hsd := m_side h
    have hgs := h.2.1.1.2.2
    have hb := h.1.2.2.1 m h1 h2
    have hW : bW B ≤ 5 := h.1.1.1.2.1; have hH : bH B ≤ 5 := h.1.1.1.2.2.2.1; have hW0 : 0 ≤ bW B := h.1.1.1.1; have hH0 : 0 ≤ bH B := h.1.1.1.2.2.1; have hWH : bW B * bH B ≤ 25 := (Int.mul_le_mul hW hH hH0 (by omega)); have hWH0 : 0 ≤ bW B * bH B := Int.mul_nonneg hW0 hH0
    have hc : f_X10_canGo (Int32.ofInt m) (Int32.ofInt i) s = some (bI (goK B G m i), s) := m_canGo h h1 h2 h0 (show i < bW B * bH B by omega)
    simp only [upto, List.foldl_cons]
    by_cases e1 : sd B m = gs G
    · cases e2 : goK B G m i with
      | true =>
        have hv : wstep B (wys B ax ay 1) G m p i = p + wys B ax ay 1 (mvK B G m i) := by unfold wstep; rw [if_pos ⟨e1, e2⟩]
        obtain ⟨s1, q1, q2, qd, q3⟩ := m_try h (L := 2) (by omega) (by omega) h1 h2 h0 (by omega) e2
        obtain ⟨s2, q4, q5⟩ := m_ways1S ha q2 (MGo_DF hg qd)
        obtain ⟨s3, q6, q7⟩ := q3 s2 1 1 q5 (by omega) 1 2 (by omega) (by omega) (by omega) (by omega)
        have q4 : f_X10_ways1 s1 = some (Int32.ofInt (wys B ax ay 1 (mvK B G m i)), s2) := q4
        obtain ⟨s4, q8, q9⟩ := ih F (i + 1) (wstep B (wys B ax ay 1) G m p i) s3 (MA_Sc h q7) (MGo_Sc hg q7) (by omega) (by omega) (by omega)
        refine ⟨s4, q7.tr q8, ?_⟩
        rw [hv] at q9 ⊢
        rw [← q9]
        rw [e2] at hc
        simp (disch := omega) only [f_X10_ways2_L23, hpl, hs, hsd, e1, hc, q1, q4, q6, bI_t, n_i8, n_i16, n_0, n_31, n_add, n_sub, n_mul, n_neg, n_div, n_rem, n_le_t, n_le_f, n_lt_t, n_lt_f, n_eq_t, n_eq_f, n_cl, n_gd, n_gdt, n_nz, Int.reduceToNat, Int.reduceAdd, Int.reduceSub, Int.reduceMul, Int.reduceNeg, Int.reduceLT, Int.reduceLE, Int.reduceEq, Int.reduceDiv, Int.reduceMod, Nat.reduceAdd, Nat.reduceMul, ↓reduceIte, u_eq, u_no, u_nk, u_ek, u_2, u_3, j_1, j_3, j_eq, j_no, j_nk, lt_def, Option.bind_some]
      | false =>
        have hv : wstep B (wys B ax ay 1) G m p i = p := by unfold wstep; rw [if_neg (fun c => by rw [e2] at c; cases c.2)]
        obtain ⟨s4, q8, q9⟩ := ih F (i + 1) p s h hg (by omega) (by omega) (by omega)
        refine ⟨s4, q8, ?_⟩
        rw [hv, ← q9]
        rw [e2] at hc
        simp (disch := omega) only [f_X10_ways2_L23, hpl, hs, hsd, e1, hc, bI_f, n_i8, n_i16, n_0, n_31, n_add, n_sub, n_mul, n_neg, n_div, n_rem, n_le_t, n_le_f, n_lt_t, n_lt_f, n_eq_t, n_eq_f, n_cl, n_gd, n_gdt, n_nz, Int.reduceToNat, Int.reduceAdd, Int.reduceSub, Int.reduceMul, Int.reduceNeg, Int.reduceLT, Int.reduceLE, Int.reduceEq, Int.reduceDiv, Int.reduceMod, Nat.reduceAdd, Nat.reduceMul, ↓reduceIte, u_eq, u_no, u_nk, u_ek, u_2, u_3, j_1, j_3, j_eq, j_no, j_nk, lt_def, Option.bind_some]
    · have hv : wstep B (wys B ax ay 1) G m p i = p := by unfold wstep; rw [if_neg (fun c => e1 c.1)]
      obtain ⟨s4, q8, q9⟩ := ih F (i + 1) p s h hg (by omega) (by omega) (by omega)
      refine ⟨s4, q8, ?_⟩
      rw [hv, ← q9]
      simp (disch := omega) only [f_X10_ways2_L23, hpl, hs, hsd, e1, n_i8, n_i16, n_0, n_31, n_add, n_sub, n_mul, n_neg, n_div, n_rem, n_le_t, n_le_f, n_lt_t, n_lt_f, n_eq_t, n_eq_f, n_cl, n_gd, n_gdt, n_nz, Int.reduceToNat, Int.reduceAdd, Int.reduceSub, Int.reduceMul, Int.reduceNeg, Int.reduceLT, Int.reduceLE, Int.reduceEq, Int.reduceDiv, Int.reduceMod, Nat.reduceAdd, Nat.reduceMul, ↓reduceIte, u_eq, u_no, u_nk, u_ek, u_2, u_3, j_1, j_3, j_eq, j_no, j_nk, lt_def, Option.bind_some]
theorem m_ways2_L13 {B : Brd} {ax ay : Int → Int} (ha : Ax B ax ay) {G : Gam} : ∀ (n F : Nat) (i : Int) (p : Int) (s : ST), MA B G s → MGo B ax ay s → 0 ≤ i → (n : Int) = bM B - i → n < F → ∃ s', Sc 1 2 s s' ∧ f_X10_ways2_L13 F (Int32.ofInt p) (Int32.ofInt i) s = some (Int32.ofInt ((upto n i).foldl (wK B (wys B ax ay 1) G) p), s') := by
  intro n
  induction n with
  | zero =>
    intro F i p s h hg h0 hn hF
    obtain ⟨F, rfl⟩ : ∃ F', F = F' + 1 := ⟨F - 1, by omega⟩
    have hmm := m_manMany h
    have hM : bM B ≤ 8 := h.1.1.1.2.2.2.2.2.2.2.1; have hM0 : 0 ≤ bM B := h.1.1.1.2.2.2.2.2.2.1
    refine ⟨s, Sc.rf _ _ s, ?_⟩
    simp (disch := omega) only [f_X10_ways2_L13, hmm, n_i8, n_i16, n_0, n_31, n_add, n_sub, n_mul, n_neg, n_div, n_rem, n_le_t, n_le_f, n_lt_t, n_lt_f, n_eq_t, n_eq_f, n_cl, n_gd, n_gdt, n_nz, Int.reduceToNat, Int.reduceAdd, Int.reduceSub, Int.reduceMul, Int.reduceNeg, Int.reduceLT, Int.reduceLE, Int.reduceEq, Int.reduceDiv, Int.reduceMod, Nat.reduceAdd, Nat.reduceMul, ↓reduceIte, u_eq, u_no, u_nk, u_ek, u_2, u_3, j_1, j_3, j_eq, j_no, j_nk, lt_def, Option.bind_some, upto, List.foldl_nil]
  | succ n ih =>
    intro F i p s h hg h0 hn hF
    obtain ⟨F, rfl⟩ : ∃ F', F = F' + 1 := ⟨F - 1, by omega⟩
    have hmm := m_manMany h
    have hM : bM B ≤ 8 := h.1.1.1.2.2.2.2.2.2.2.1; have hM0 : 0 ≤ bM B := h.1.1.1.2.2.2.2.2.2.1
    have hW : bW B ≤ 5 := h.1.1.1.2.1; have hH : bH B ≤ 5 := h.1.1.1.2.2.2.1; have hW0 : 0 ≤ bW B := h.1.1.1.1; have hH0 : 0 ≤ bH B := h.1.1.1.2.2.1; have hWH : bW B * bH B ≤ 25 := (Int.mul_le_mul hW hH hH0 (by omega)); have hWH0 : 0 ≤ bW B * bH B := Int.mul_nonneg hW0 hH0
    obtain ⟨s1, q1, q2⟩ := m_ways2_L23 ha (G := G) h0 (show i < bM B by omega) (f_X10_ways2_L13 F) (bW B * bH B).toNat fuel 0 p s h hg (by omega) (by omega) (by unfold fuel; omega)
    have q2 : f_X10_ways2_L23 (f_X10_ways2_L13 F) fuel (Int32.ofInt p) (Int32.ofInt i) (Int32.ofInt 0) s = f_X10_ways2_L13 F (Int32.ofInt (wK B (wys B ax ay 1) G p i)) (Int32.ofInt (i + 1)) s1 := q2
    obtain ⟨s2, q3, q4⟩ := ih F (i + 1) (wK B (wys B ax ay 1) G p i) s1 (MA_Sc h q1) (MGo_Sc hg q1) (by omega) (by omega) (by omega)
    refine ⟨s2, q1.tr q3, ?_⟩
    simp only [upto, List.foldl_cons]
    rw [← q4, ← q2]
    simp (disch := omega) only [f_X10_ways2_L13, hmm, n_i8, n_i16, n_0, n_31, n_add, n_sub, n_mul, n_neg, n_div, n_rem, n_le_t, n_le_f, n_lt_t, n_lt_f, n_eq_t, n_eq_f, n_cl, n_gd, n_gdt, n_nz, Int.reduceToNat, Int.reduceAdd, Int.reduceSub, Int.reduceMul, Int.reduceNeg, Int.reduceLT, Int.reduceLE, Int.reduceEq, Int.reduceDiv, Int.reduceMod, Nat.reduceAdd, Nat.reduceMul, ↓reduceIte, u_eq, u_no, u_nk, u_ek, u_2, u_3, j_1, j_3, j_eq, j_no, j_nk, lt_def, Option.bind_some]
theorem m_ways2S {B : Brd} {ax ay : Int → Int} (ha : Ax B ax ay) {G : Gam} {s : ST} (h : MA B G s) (hg : MGo B ax ay s) : ∃ s', f_X10_ways2 s = some (Int32.ofInt (wys B ax ay 2 G), s') ∧ Sc 1 2 s s' := by
  have hct := m_isCrownTaken h
  have hM : bM B ≤ 8 := h.1.1.1.2.2.2.2.2.2.2.1; have hM0 : 0 ≤ bM B := h.1.1.1.2.2.2.2.2.2.1
  cases e : ct B G with
  | true =>
    rw [e] at hct
    refine ⟨s, ?_, Sc.rf _ _ s⟩
    have : wys B ax ay 2 G = 0 := by show (if ct B G = true then _ else _) = _; rw [if_pos e]
    rw [this]
    simp (disch := omega) only [f_X10_ways2, hct, bI_t, n_i8, n_i16, n_0, n_31, n_add, n_sub, n_mul, n_neg, n_div, n_rem, n_le_t, n_le_f, n_lt_t, n_lt_f, n_eq_t, n_eq_f, n_cl, n_gd, n_gdt, n_nz, Int.reduceToNat, Int.reduceAdd, Int.reduceSub, Int.reduceMul, Int.reduceNeg, Int.reduceLT, Int.reduceLE, Int.reduceEq, Int.reduceDiv, Int.reduceMod, Nat.reduceAdd, Nat.reduceMul, ↓reduceIte, u_eq, u_no, u_nk, u_ek, u_2, u_3, j_1, j_3, j_eq, j_no, j_nk, lt_def, Option.bind_some]
  | false =>
    rw [e] at hct
    obtain ⟨s1, q1, q2⟩ := m_ways2_L13 ha (G := G) (bM B).toNat fuel 0 0 s h hg (by omega) (by omega) (by unfold fuel; omega)
    refine ⟨s1, ?_, q1⟩
    have : wys B ax ay 2 G = (mens B).foldl (wK B (wys B ax ay 1) G) 0 := by show (if ct B G = true then _ else _) = _; rw [if_neg (by rw [e]; simp)]
    rw [this]
    simp (disch := omega) only [f_X10_ways2, hct, bI_f, n_i8, n_i16, n_0, n_31, n_add, n_sub, n_mul, n_neg, n_div, n_rem, n_le_t, n_le_f, n_lt_t, n_lt_f, n_eq_t, n_eq_f, n_cl, n_gd, n_gdt, n_nz, Int.reduceToNat, Int.reduceAdd, Int.reduceSub, Int.reduceMul, Int.reduceNeg, Int.reduceLT, Int.reduceLE, Int.reduceEq, Int.reduceDiv, Int.reduceMod, Nat.reduceAdd, Nat.reduceMul, ↓reduceIte, u_eq, u_no, u_nk, u_ek, u_2, u_3, j_1, j_3, j_eq, j_no, j_nk, lt_def, Option.bind_some]
    exact q2

theorem m_ways3_L23 {B : Brd} {ax ay : Int → Int} (ha : Ax B ax ay) {G : Gam} {m : Int} (h1 : 0 ≤ m) (h2 : m < bM B) (K : Int32 → Int32 → ST → Option (Int32 × ST)) : ∀ (n F : Nat) (i : Int) (p : Int) (s : ST), MA B G s → MGo B ax ay s → 0 ≤ i → (n : Int) = bW B * bH B - i → n < F → ∃ s', Sc 1 3 s s' ∧ f_X10_ways3_L23 K F (Int32.ofInt p) (Int32.ofInt m) (Int32.ofInt i) s = K (Int32.ofInt ((upto n i).foldl (wstep B (wys B ax ay 2) G m) p)) (Int32.ofInt (m + 1)) s' := by
  intro n
  induction n with
  | zero =>
    intro F i p s h hg h0 hn hF
    obtain ⟨F, rfl⟩ : ∃ F', F = F' + 1 := ⟨F - 1, by omega⟩
    have hpl := m_places h
    have hW : bW B ≤ 5 := h.1.1.1.2.1; have hH : bH B ≤ 5 := h.1.1.1.2.2.2.1; have hW0 : 0 ≤ bW B := h.1.1.1.1; have hH0 : 0 ≤ bH B := h.1.1.1.2.2.1; have hWH : bW B * bH B ≤ 25 := (Int.mul_le_mul hW hH hH0 (by omega)); have hWH0 : 0 ≤ bW B * bH B := Int.mul_nonneg hW0 hH0
    refine ⟨s, Sc.rf _ _ s, ?_⟩
    simp (disch := omega) only [f_X10_ways3_L23, hpl, n_i8, n_i16, n_0, n_31, n_add, n_sub, n_mul, n_neg, n_div, n_rem, n_le_t, n_le_f, n_lt_t, n_lt_f, n_eq_t, n_eq_f, n_cl, n_gd, n_gdt, n_nz, Int.reduceToNat, Int.reduceAdd, Int.reduceSub, Int.reduceMul, Int.reduceNeg, Int.reduceLT, Int.reduceLE, Int.reduceEq, Int.reduceDiv, Int.reduceMod, Nat.reduceAdd, Nat.reduceMul, ↓reduceIte, u_eq, u_no, u_nk, u_ek, u_2, u_3, j_1, j_3, j_eq, j_no, j_nk, lt_def, Option.bind_some, upto, List.foldl_nil]
  | succ n ih =>
    intro F i p s h hg h0 hn hF
    obtain ⟨F, rfl⟩ : ∃ F', F = F' + 1 := ⟨F - 1, by omega⟩
    have hpl := m_places h
    have hs := m_sideOf h h1 h2
    have hsd := m_side h
    have hgs := h.2.1.1.2.2
    have hb := h.1.2.2.1 m h1 h2
    have hW : bW B ≤ 5 := h.1.1.1.2.1; have hH : bH B ≤ 5 := h.1.1.1.2.2.2.1; have hW0 : 0 ≤ bW B := h.1.1.1.1; have hH0 : 0 ≤ bH B := h.1.1.1.2.2.1; have hWH : bW B * bH B ≤ 25 := (Int.mul_le_mul hW hH hH0 (by omega)); have hWH0 : 0 ≤ bW B * bH B := Int.mul_nonneg hW0 hH0
    have hc : f_X10_canGo (Int32.ofInt m) (Int32.ofInt i) s = some (bI (goK B G m i), s) := m_canGo h h1 h2 h0 (show i < bW B * bH B by omega)
    simp only [upto, List.foldl_cons]
    by_cases e1 : sd B m = gs G
    · cases e2 : goK B G m i with
      | true =>
        have hv : wstep B (wys B ax ay 2) G m p i = p + wys B ax ay 2 (mvK B G m i) := by unfold wstep; rw [if_pos ⟨e1, e2⟩]
        obtain ⟨s1, q1, q2, qd, q3⟩ := m_try h (L := 3) (by omega) (by omega) h1 h2 h0 (by omega) e2
        obtain ⟨s2, q4, q5⟩ := m_ways2S ha q2 (MGo_DF hg qd)
        obtain ⟨s3, q6, q7⟩ := q3 s2 1 2 q5 (by omega) 1 3 (by omega) (by omega) (by omega) (by omega)
        have q4 : f_X10_ways2 s1 = some (Int32.ofInt (wys B ax ay 2 (mvK B G m i)), s2) := q4
        obtain ⟨s4, q8, q9⟩ := ih F (i + 1) (wstep B (wys B ax ay 2) G m p i) s3 (MA_Sc h q7) (MGo_Sc hg q7) (by omega) (by omega) (by omega)
        refine ⟨s4, q7.tr q8, ?_⟩
        rw [hv] at q9 ⊢
        rw [← q9]
        rw [e2] at hc
        simp (disch := omega) only [f_X10_ways3_L23, hpl, hs, hsd, e1, hc, q1, q4, q6, bI_t, n_i8, n_i16, n_0, n_31, n_add, n_sub, n_mul, n_neg, n_div, n_rem, n_le_t, n_le_f, n_lt_t, n_lt_f, n_eq_t, n_eq_f, n_cl, n_gd, n_gdt, n_nz, Int.reduceToNat, Int.reduceAdd, Int.reduceSub, Int.reduceMul, Int.reduceNeg, Int.reduceLT, Int.reduceLE, Int.reduceEq, Int.reduceDiv, Int.reduceMod, Nat.reduceAdd, Nat.reduceMul, ↓reduceIte, u_eq, u_no, u_nk, u_ek, u_2, u_3, j_1, j_3, j_eq, j_no, j_nk, lt_def, Option.bind_some]
      | false =>
        have hv : wstep B (wys B ax ay 2) G m p i = p := by unfold wstep; rw [if_neg (fun c => by rw [e2] at c; cases c.2)]
        obtain ⟨s4, q8, q9⟩ := ih F (i + 1) p s h hg (by omega) (by omega) (by omega)
        refine ⟨s4, q8, ?_⟩
        rw [hv, ← q9]
        rw [e2] at hc
        simp (disch := omega) only [f_X10_ways3_L23, hpl, hs, hsd, e1, hc, bI_f, n_i8, n_i16, n_0, n_31, n_add, n_sub, n_mul, n_neg, n_div, n_rem, n_le_t, n_le_f, n_lt_t, n_lt_f, n_eq_t, n_eq_f, n_cl, n_gd, n_gdt, n_nz, Int.reduceToNat, Int.reduceAdd, Int.reduceSub, Int.reduceMul, Int.reduceNeg, Int.reduceLT, Int.reduceLE, Int.reduceEq, Int.reduceDiv, Int.reduceMod, Nat.reduceAdd, Nat.reduceMul, ↓reduceIte, u_eq, u_no, u_nk, u_ek, u_2, u_3, j_1, j_3, j_eq, j_no, j_nk, lt_def, Option.bind_some]
    · have hv : wstep B (wys B ax ay 2) G m p i = p := by unfold wstep; rw [if_neg (fun c => e1 c.1)]
      obtain ⟨s4, q8, q9⟩ := ih F (i + 1) p s h hg (by omega) (by omega) (by omega)
      refine ⟨s4, q8, ?_⟩
      rw [hv, ← q9]
      simp (disch := omega) only [f_X10_ways3_L23, hpl, hs, hsd, e1, n_i8, n_i16, n_0, n_31, n_add, n_sub, n_mul, n_neg, n_div, n_rem, n_le_t, n_le_f, n_lt_t, n_lt_f, n_eq_t, n_eq_f, n_cl, n_gd, n_gdt, n_nz, Int.reduceToNat, Int.reduceAdd, Int.reduceSub, Int.reduceMul, Int.reduceNeg, Int.reduceLT, Int.reduceLE, Int.reduceEq, Int.reduceDiv, Int.reduceMod, Nat.reduceAdd, Nat.reduceMul, ↓reduceIte, u_eq, u_no, u_nk, u_ek, u_2, u_3, j_1, j_3, j_eq, j_no, j_nk, lt_def, Option.bind_some]
theorem m_ways3_L13 {B : Brd} {ax ay : Int → Int} (ha : Ax B ax ay) {G : Gam} : ∀ (n F : Nat) (i : Int) (p : Int) (s : ST), MA B G s → MGo B ax ay s → 0 ≤ i → (n : Int) = bM B - i → n < F → ∃ s', Sc 1 3 s s' ∧ f_X10_ways3_L13 F (Int32.ofInt p) (Int32.ofInt i) s = some (Int32.ofInt ((upto n i).foldl (wK B (wys B ax ay 2) G) p), s') := by
  intro n
  induction n with
  | zero =>
    intro F i p s h hg h0 hn hF
    obtain ⟨F, rfl⟩ : ∃ F', F = F' + 1 := ⟨F - 1, by omega⟩
    have hmm := m_manMany h
    have hM : bM B ≤ 8 := h.1.1.1.2.2.2.2.2.2.2.1; have hM0 : 0 ≤ bM B := h.1.1.1.2.2.2.2.2.2.1
    refine ⟨s, Sc.rf _ _ s, ?_⟩
    simp (disch := omega) only [f_X10_ways3_L13, hmm, n_i8, n_i16, n_0, n_31, n_add, n_sub, n_mul, n_neg, n_div, n_rem, n_le_t, n_le_f, n_lt_t, n_lt_f, n_eq_t, n_eq_f, n_cl, n_gd, n_gdt, n_nz, Int.reduceToNat, Int.reduceAdd, Int.reduceSub, Int.reduceMul, Int.reduceNeg, Int.reduceLT, Int.reduceLE, Int.reduceEq, Int.reduceDiv, Int.reduceMod, Nat.reduceAdd, Nat.reduceMul, ↓reduceIte, u_eq, u_no, u_nk, u_ek, u_2, u_3, j_1, j_3, j_eq, j_no, j_nk, lt_def, Option.bind_some, upto, List.foldl_nil]
  | succ n ih =>
    intro F i p s h hg h0 hn hF
    obtain ⟨F, rfl⟩ : ∃ F', F = F' + 1 := ⟨F - 1, by omega⟩
    have hmm := m_manMany h
    have hM : bM B ≤ 8 := h.1.1.1.2.2.2.2.2.2.2.1; have hM0 : 0 ≤ bM B := h.1.1.1.2.2.2.2.2.2.1
    have hW : bW B ≤ 5 := h.1.1.1.2.1; have hH : bH B ≤ 5 := h.1.1.1.2.2.2.1; have hW0 : 0 ≤ bW B := h.1.1.1.1; have hH0 : 0 ≤ bH B := h.1.1.1.2.2.1; have hWH : bW B * bH B ≤ 25 := (Int.mul_le_mul hW hH hH0 (by omega)); have hWH0 : 0 ≤ bW B * bH B := Int.mul_nonneg hW0 hH0
    obtain ⟨s1, q1, q2⟩ := m_ways3_L23 ha (G := G) h0 (show i < bM B by omega) (f_X10_ways3_L13 F) (bW B * bH B).toNat fuel 0 p s h hg (by omega) (by omega) (by unfold fuel; omega)
    have q2 : f_X10_ways3_L23 (f_X10_ways3_L13 F) fuel (Int32.ofInt p) (Int32.ofInt i) (Int32.ofInt 0) s = f_X10_ways3_L13 F (Int32.ofInt (wK B (wys B ax ay 2) G p i)) (Int32.ofInt (i + 1)) s1 := q2
    obtain ⟨s2, q3, q4⟩ := ih F (i + 1) (wK B (wys B ax ay 2) G p i) s1 (MA_Sc h q1) (MGo_Sc hg q1) (by omega) (by omega) (by omega)
    refine ⟨s2, q1.tr q3, ?_⟩
    simp only [upto, List.foldl_cons]
    rw [← q4, ← q2]
    simp (disch := omega) only [f_X10_ways3_L13, hmm, n_i8, n_i16, n_0, n_31, n_add, n_sub, n_mul, n_neg, n_div, n_rem, n_le_t, n_le_f, n_lt_t, n_lt_f, n_eq_t, n_eq_f, n_cl, n_gd, n_gdt, n_nz, Int.reduceToNat, Int.reduceAdd, Int.reduceSub, Int.reduceMul, Int.reduceNeg, Int.reduceLT, Int.reduceLE, Int.reduceEq, Int.reduceDiv, Int.reduceMod, Nat.reduceAdd, Nat.reduceMul, ↓reduceIte, u_eq, u_no, u_nk, u_ek, u_2, u_3, j_1, j_3, j_eq, j_no, j_nk, lt_def, Option.bind_some]
theorem m_ways3S {B : Brd} {ax ay : Int → Int} (ha : Ax B ax ay) {G : Gam} {s : ST} (h : MA B G s) (hg : MGo B ax ay s) : ∃ s', f_X10_ways3 s = some (Int32.ofInt (wys B ax ay 3 G), s') ∧ Sc 1 3 s s' := by
  have hct := m_isCrownTaken h
  have hM : bM B ≤ 8 := h.1.1.1.2.2.2.2.2.2.2.1; have hM0 : 0 ≤ bM B := h.1.1.1.2.2.2.2.2.2.1
  cases e : ct B G with
  | true =>
    rw [e] at hct
    refine ⟨s, ?_, Sc.rf _ _ s⟩
    have : wys B ax ay 3 G = 0 := by show (if ct B G = true then _ else _) = _; rw [if_pos e]
    rw [this]
    simp (disch := omega) only [f_X10_ways3, hct, bI_t, n_i8, n_i16, n_0, n_31, n_add, n_sub, n_mul, n_neg, n_div, n_rem, n_le_t, n_le_f, n_lt_t, n_lt_f, n_eq_t, n_eq_f, n_cl, n_gd, n_gdt, n_nz, Int.reduceToNat, Int.reduceAdd, Int.reduceSub, Int.reduceMul, Int.reduceNeg, Int.reduceLT, Int.reduceLE, Int.reduceEq, Int.reduceDiv, Int.reduceMod, Nat.reduceAdd, Nat.reduceMul, ↓reduceIte, u_eq, u_no, u_nk, u_ek, u_2, u_3, j_1, j_3, j_eq, j_no, j_nk, lt_def, Option.bind_some]
  | false =>
    rw [e] at hct
    obtain ⟨s1, q1, q2⟩ := m_ways3_L13 ha (G := G) (bM B).toNat fuel 0 0 s h hg (by omega) (by omega) (by unfold fuel; omega)
    refine ⟨s1, ?_, q1⟩
    have : wys B ax ay 3 G = (mens B).foldl (wK B (wys B ax ay 2) G) 0 := by show (if ct B G = true then _ else _) = _; rw [if_neg (by rw [e]; simp)]
    rw [this]
    simp (disch := omega) only [f_X10_ways3, hct, bI_f, n_i8, n_i16, n_0, n_31, n_add, n_sub, n_mul, n_neg, n_div, n_rem, n_le_t, n_le_f, n_lt_t, n_lt_f, n_eq_t, n_eq_f, n_cl, n_gd, n_gdt, n_nz, Int.reduceToNat, Int.reduceAdd, Int.reduceSub, Int.reduceMul, Int.reduceNeg, Int.reduceLT, Int.reduceLE, Int.reduceEq, Int.reduceDiv, Int.reduceMod, Nat.reduceAdd, Nat.reduceMul, ↓reduceIte, u_eq, u_no, u_nk, u_ek, u_2, u_3, j_1, j_3, j_eq, j_no, j_nk, lt_def, Option.bind_some]
    exact q2
