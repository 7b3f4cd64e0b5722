/-! L3: words, numbers and signs on the tape; how the reference reads them -/
def isL (c : Int) : Bool := decide (97 ≤ c ∧ c ≤ 122)
def isD (c : Int) : Bool := decide (48 ≤ c ∧ c ≤ 57)
def isBk (c : Int) : Bool := decide (c = 10 ∨ c = 32)
def skF (p : Int → Bool) (T : Int → Int) : Nat → Int → Int
  | 0, b => b
  | k + 1, b => if p (T b) = true then skF p T k (b + 1) else b
/-- the first place from b on that is not so, or the end -/
def sk (p : Int → Bool) (T : Int → Int) (n b : Int) : Int := skF p T (n - b).toNat b
theorem sk_ge {p : Int → Bool} {T : Int → Int} {n b : Int} (h : n ≤ b) : sk p T n b = b := by
  unfold sk
  rw [show (n - b).toNat = 0 by omega]
  rfl
theorem sk_t {p : Int → Bool} {T : Int → Int} {n b : Int} (h : b < n) (hp : p (T b) = true) : sk p T n b = sk p T n (b + 1) := by
  unfold sk
  obtain ⟨m, hm⟩ : ∃ m : Nat, (n - b).toNat = m + 1 := ⟨(n - b).toNat - 1, by omega⟩
  rw [hm, show (n - (b + 1)).toNat = m by omega]
  show (if p (T b) = true then skF p T m (b + 1) else b) = _
  rw [if_pos hp]
theorem sk_f {p : Int → Bool} {T : Int → Int} {n b : Int} (hp : p (T b) = false) : sk p T n b = b := by
  unfold sk
  cases (n - b).toNat with
  | zero => rfl
  | succ m =>
    show (if p (T b) = true then skF p T m (b + 1) else b) = _
    rw [hp, if_neg (by decide)]
theorem sk_b {p : Int → Bool} {T : Int → Int} {n : Int} : ∀ (m : Nat) (b : Int), (n - b).toNat = m → b ≤ sk p T n b ∧ (b ≤ n → sk p T n b ≤ n) ∧ (∀ j, b ≤ j → j < sk p T n b → p (T j) = true) ∧ (sk p T n b < n → p (T (sk p T n b)) = false)
  | 0, b, hm => by
    rw [sk_ge (by omega)]
    exact ⟨by omega, fun h => h, fun j h1 h2 => by omega, fun h => by omega⟩
  | m + 1, b, hm => by
    cases e : p (T b) with
    | true =>
      rw [sk_t (by omega) e]
      obtain ⟨h1, h2, h3, h4⟩ := sk_b (p := p) (T := T) (n := n) m (b + 1) (by omega)
      refine ⟨by omega, fun h => h2 (by omega), fun j j1 j2 => ?_, h4⟩
      by_cases x : j = b
      · rw [x]; exact e
      · exact h3 j (by omega) j2
    | false =>
      rw [sk_f e]
      exact ⟨by omega, fun h => h, fun j h1 h2 => by omega, fun _ => e⟩
theorem sk_id {p : Int → Bool} {T : Int → Int} {n b : Int} : sk p T n (sk p T n b) = sk p T n b := by
  obtain ⟨h1, h2, h3, h4⟩ := sk_b (p := p) (T := T) (n := n) _ b rfl
  by_cases e : sk p T n b < n
  · exact sk_f (h4 e)
  · exact sk_ge (by omega)
/-- the letters of a word -/
def wl (T : Int → Int) : Int → Nat → List Int
  | _, 0 => []
  | f, k + 1 => T f :: wl T (f + 1) k
theorem wl_len (T : Int → Int) : ∀ (k : Nat) (f : Int), (wl T f k).length = k
  | 0, _ => rfl
  | k + 1, f => by
    show (T f :: wl T (f + 1) k).length = k + 1
    rw [List.length_cons, wl_len T k (f + 1)]
theorem wl_nl {T : Int → Int} {f : Int} {k : Nat} {l : List Int} (h : ¬ k = l.length) : ¬ wl T f k = l := fun x => h (by rw [← x, wl_len])
/-- a place on the tape, and whether a word or a number has ended there -/
abbrev Cur : Type := Int × Bool
def frm (T : Int → Int) (n : Int) (c : Cur) : Int := sk isBk T n c.1
def adj (T : Int → Int) (n : Int) (c : Cur) : Bool := c.2 && decide (frm T n c = c.1)
def isW (T : Int → Int) (n : Int) (c : Cur) : Bool := (decide (frm T n c < n) && isL (T (frm T n c))) && !adj T n c
/-- the word at hand -/
def wd (T : Int → Int) (n : Int) (c : Cur) : List Int := wl T (frm T n c) (sk isL T n (frm T n c) - frm T n c).toNat
def isWL (T : Int → Int) (n : Int) (c : Cur) (l : List Int) : Bool := isW T n c && decide (wd T n c = l)
def isSg (T : Int → Int) (n : Int) (c : Cur) (ch : Int) : Bool := decide (frm T n c < n) && decide (T (frm T n c) = ch)
def nxW (T : Int → Int) (n : Int) (c : Cur) : Cur := (sk isL T n (frm T n c), true)
def nxS (T : Int → Int) (n : Int) (c : Cur) : Cur := (frm T n c + 1, false)
/-- the reference reads: it stands at a, a word or a number has ended at d -/
def RX (T : Int → Int) (n a d : Int) (s : ST) : Prop := (TC T n s ∧ s.1 65 3 = Int32.ofInt n ∧ 0 ≤ n ∧ n ≤ 1600) ∧ (s.1 65 2 = Int32.ofInt a ∧ 0 ≤ a ∧ a ≤ n) ∧ (s.1 65 4 = Int32.ofInt d ∧ -1 ≤ d ∧ d ≤ n) ∧ s.1 65 5 = Int32.ofInt 0 ∧ s.1 65 6 = Int32.ofInt (-1)
def cuR (T : Int → Int) (n : Int) (c : Cur) (a d : Int) : Prop := (a = c.1 ∨ a = frm T n c) ∧ (0 ≤ c.1 ∧ c.1 ≤ n) ∧ (c.2 = true → d = c.1) ∧ (c.2 = false → d < c.1)
def RC (T : Int → Int) (n : Int) (c : Cur) (s : ST) : Prop := ∃ a d, RX T n a d s ∧ cuR T n c a d
/-- it has looked -/
def RLk (T : Int → Int) (n : Int) (c : Cur) (s : ST) : Prop := ∃ d, RX T n (frm T n c) d s ∧ cuR T n c (frm T n c) d
theorem RLk.rc {T : Int → Int} {n : Int} {c : Cur} {s : ST} (h : RLk T n c s) : RC T n c s := by
  obtain ⟨d, h1, h2⟩ := h
  exact ⟨_, d, h1, h2⟩
/-- what reading may change in the reference -/
def RPf (s s' : ST) : Prop := (∀ o k : Nat, ¬ (o = 65 ∧ (k = 2 ∨ k = 4 ∨ k = 5 ∨ k = 6 ∨ k = 10 ∨ k = 44)) → s'.1 o k = s.1 o k) ∧ s'.2 = s.2
theorem RPf.rf (s : ST) : RPf s s := ⟨fun _ _ _ => rfl, rfl⟩
theorem RPf.tr {s t u : ST} (h1 : RPf s t) (h2 : RPf t u) : RPf s u := ⟨fun o k x => (h2.1 o k x).trans (h1.1 o k x), h2.2.trans h1.2⟩
def RFa (s s' : ST) : Prop := (∀ o k : Nat, ¬ (o = 65 ∧ k = 2) → s'.1 o k = s.1 o k) ∧ s'.2 = s.2
theorem RFa.rp {s t : ST} (h : RFa s t) : RPf s t := ⟨fun o k x => h.1 o k (by omega), h.2⟩
theorem RX_a {T : Int → Int} {n a d a' : Int} {s s' : ST} (h : RX T n a d s) (h2 : s'.1 65 2 = Int32.ofInt a') (b0 : 0 ≤ a') (b1 : a' ≤ n) (hf : RFa s s') : RX T n a' d s' := by
  obtain ⟨⟨h1, h3, h4⟩, -, h6, h7⟩ := h
  exact ⟨⟨fun j j0 j1 => ⟨(hf.1 66 _ (by omega)).trans (h1 j j0 j1).1, (h1 j j0 j1).2⟩, (hf.1 65 3 (by omega)).trans h3, h4⟩, ⟨h2, b0, b1⟩, ⟨(hf.1 65 4 (by omega)).trans h6.1, h6.2⟩, (hf.1 65 5 (by omega)).trans h7.1, (hf.1 65 6 (by omega)).trans h7.2⟩
def lkV (T : Int → Int) (n f : Int) : Int := if f < n then T f else -1
theorem m_look_L {T : Int → Int} {n d : Int} : ∀ (m F : Nat) (a : Int) (s : ST), RX T n a d s → (n - a).toNat = m → m < F → ∃ s', f_X10_look_L0 f_X10_look_j52 F s = some (Int32.ofInt (lkV T n (sk isBk T n a)), s') ∧ RX T n (sk isBk T n a) d s' ∧ RFa s s' := by
  intro m
  induction m with
  | zero =>
    intro F a s h hm hF
    obtain ⟨F, rfl⟩ : ∃ F', F = F' + 1 := ⟨F - 1, by omega⟩
    have h' := h
    obtain ⟨⟨h1, h3, h4⟩, ⟨h5, h5b, h5c⟩, h6, h7⟩ := h'
    have e : sk isBk T n a = a := sk_ge (by omega)
    rw [e]
    refine ⟨s, ?_, h, ⟨fun _ _ _ => rfl, rfl⟩⟩
    unfold lkV
    rw [if_neg (by omega)]
    simp (disch := omega) only [f_X10_look_L0, f_X10_look_j52, h3, h5, n_i8, n_i16, n_0, n_31, n_add, n_sub, n_mul, n_neg, n_div, n_rem, n_le_t, n_le_f, n_lt_t, n_lt_f, n_eq_t, n_eq_f, n_cl, n_gd, n_gdt, n_nz, Int.reduceToNat, Int.reduceAdd, Int.reduceSub, Int.reduceMul, Int.reduceNeg, Int.reduceLT, Int.reduceLE, Int.reduceEq, Int.reduceDiv, Int.reduceMod, Nat.reduceAdd, Nat.reduceMul, ↓reduceIte, u_eq, u_no, u_nk, u_ek, u_2, u_3, j_1, j_3, j_eq, j_no, j_nk, ltd, bnd]
  | succ m ih =>
    intro F a s h hm hF
    obtain ⟨F, rfl⟩ : ∃ F', F = F' + 1 := ⟨F - 1, by omega⟩
    have h' := h
    obtain ⟨⟨h1, h3, h4⟩, ⟨h5, h5b, h5c⟩, h6, h7⟩ := h'
    obtain ⟨t1, t2⟩ := h1 a h5b (by omega)
    cases e : isBk (T a) with
    | true =>
      have hbk : T a = 10 ∨ T a = 32 := of_decide_eq_true e
      rw [sk_t (by omega) e]
      have hfa : RFa s (uI s 65 2 (Int32.ofInt (a + 1))) := ⟨fun o k x => by (simp only [ua, ja, u_2, u_3, j_1, j_3]; (repeat' split) <;> first | rfl | (exfalso; omega)), rfl⟩
      obtain ⟨s', q1, q2, q3⟩ := ih F (a + 1) _ (RX_a h (u_eq _ _ _ _) (by omega) (by omega) hfa) (by omega) (by omega)
      refine ⟨s', ?_, q2, ⟨fun o k x => (q3.1 o k x).trans (hfa.1 o k x), q3.2⟩⟩
      rw [← q1, f_X10_look_L0]
      rcases hbk with hbk | hbk
      · rw [hbk] at t1
        simp (disch := omega) only [f_X10_look_j39, h3, h5, t1, n_i8, n_i16, n_0, n_31, n_add, n_sub, n_mul, n_neg, n_div, n_rem, n_le_t, n_le_f, n_lt_t, n_lt_f, n_eq_t, n_eq_f, n_cl, n_gd, n_gdt, n_nz, Int.reduceToNat, Int.reduceAdd, Int.reduceSub, Int.reduceMul, Int.reduceNeg, Int.reduceLT, Int.reduceLE, Int.reduceEq, Int.reduceDiv, Int.reduceMod, Nat.reduceAdd, Nat.reduceMul, ↓reduceIte, u_eq, u_no, u_nk, u_ek, u_2, u_3, j_1, j_3, j_eq, j_no, j_nk, ltd, bnd]
      · rw [hbk] at t1
        simp (disch := omega) only [f_X10_look_j39, h3, h5, t1, n_i8, n_i16, n_0, n_31, n_add, n_sub, n_mul, n_neg, n_div, n_rem, n_le_t, n_le_f, n_lt_t, n_lt_f, n_eq_t, n_eq_f, n_cl, n_gd, n_gdt, n_nz, Int.reduceToNat, Int.reduceAdd, Int.reduceSub, Int.reduceMul, Int.reduceNeg, Int.reduceLT, Int.reduceLE, Int.reduceEq, Int.reduceDiv, Int.reduceMod, Nat.reduceAdd, Nat.reduceMul, ↓reduceIte, u_eq, u_no, u_nk, u_ek, u_2, u_3, j_1, j_3, j_eq, j_no, j_nk, ltd, bnd]
    | false =>
      have hbk : ¬ (T a = 10 ∨ T a = 32) := of_decide_eq_false e
      rw [sk_f e]
      refine ⟨s, ?_, h, ⟨fun _ _ _ => rfl, rfl⟩⟩
      unfold lkV
      rw [if_pos (by omega)]
      simp (disch := omega) only [f_X10_look_L0, f_X10_look_j52, h3, h5, t1, n_i8, n_i16, n_0, n_31, n_add, n_sub, n_mul, n_neg, n_div, n_rem, n_le_t, n_le_f, n_lt_t, n_lt_f, n_eq_t, n_eq_f, n_cl, n_gd, n_gdt, n_nz, Int.reduceToNat, Int.reduceAdd, Int.reduceSub, Int.reduceMul, Int.reduceNeg, Int.reduceLT, Int.reduceLE, Int.reduceEq, Int.reduceDiv, Int.reduceMod, Nat.reduceAdd, Nat.reduceMul, ↓reduceIte, u_eq, u_no, u_nk, u_ek, u_2, u_3, j_1, j_3, j_eq, j_no, j_nk, ltd, bnd]
theorem frm_b {T : Int → Int} {n : Int} {c : Cur} (h0 : 0 ≤ c.1) (h1 : c.1 ≤ n) : c.1 ≤ frm T n c ∧ frm T n c ≤ n := by
  obtain ⟨a, b, -, -⟩ := sk_b (p := isBk) (T := T) (n := n) _ c.1 rfl
  exact ⟨a, b h1⟩
theorem m_look {T : Int → Int} {n : Int} {c : Cur} {s : ST} (h : RC T n c s) : ∃ s', f_X10_look s = some (Int32.ofInt (lkV T n (frm T n c)), s') ∧ RLk T n c s' ∧ RFa s s' := by
  obtain ⟨a, d, h1, h2⟩ := h
  obtain ⟨s', q1, q2, q3⟩ := m_look_L (n - a).toNat fuel a s h1 rfl (by have := h1.1.2.2; have := h1.2.1.2; unfold fuel; omega)
  have e : sk isBk T n a = frm T n c := by
    rcases h2.1 with e | e
    · rw [e]; rfl
    · rw [e]; exact sk_id
  rw [e] at q1 q2
  exact ⟨s', q1, ⟨d, q2, Or.inr rfl, h2.2⟩, q3⟩
theorem m_isLet {v : Int} (v0 : -1 ≤ v) (v1 : v ≤ 255) (s : ST) : f_X10_isLetter (Int32.ofInt v) s = some (bI (isL v), s) := by
  unfold isL
  by_cases e1 : v < 97
  · rw [decide_eq_false (by omega)]
    simp (disch := omega) only [f_X10_isLetter, bI_f, n_i8, n_i16, n_0, n_31, n_add, n_sub, n_mul, n_neg, n_div, n_rem, n_le_t, n_le_f, n_lt_t, n_lt_f, n_eq_t, n_eq_f, n_cl, n_gd, n_gdt, n_nz, Int.reduceToNat, Int.reduceAdd, Int.reduceSub, Int.reduceMul, Int.reduceNeg, Int.reduceLT, Int.reduceLE, Int.reduceEq, Int.reduceDiv, Int.reduceMod, Nat.reduceAdd, Nat.reduceMul, ↓reduceIte, u_eq, u_no, u_nk, u_ek, u_2, u_3, j_1, j_3, j_eq, j_no, j_nk, ltd, bnd]
  by_cases e2 : 122 < v
  · rw [decide_eq_false (by omega)]
    simp (disch := omega) only [f_X10_isLetter, bI_f, n_i8, n_i16, n_0, n_31, n_add, n_sub, n_mul, n_neg, n_div, n_rem, n_le_t, n_le_f, n_lt_t, n_lt_f, n_eq_t, n_eq_f, n_cl, n_gd, n_gdt, n_nz, Int.reduceToNat, Int.reduceAdd, Int.reduceSub, Int.reduceMul, Int.reduceNeg, Int.reduceLT, Int.reduceLE, Int.reduceEq, Int.reduceDiv, Int.reduceMod, Nat.reduceAdd, Nat.reduceMul, ↓reduceIte, u_eq, u_no, u_nk, u_ek, u_2, u_3, j_1, j_3, j_eq, j_no, j_nk, ltd, bnd]
  · rw [decide_eq_true (by omega)]
    simp (disch := omega) only [f_X10_isLetter, bI_t, n_i8, n_i16, n_0, n_31, n_add, n_sub, n_mul, n_neg, n_div, n_rem, n_le_t, n_le_f, n_lt_t, n_lt_f, n_eq_t, n_eq_f, n_cl, n_gd, n_gdt, n_nz, Int.reduceToNat, Int.reduceAdd, Int.reduceSub, Int.reduceMul, Int.reduceNeg, Int.reduceLT, Int.reduceLE, Int.reduceEq, Int.reduceDiv, Int.reduceMod, Nat.reduceAdd, Nat.reduceMul, ↓reduceIte, u_eq, u_no, u_nk, u_ek, u_2, u_3, j_1, j_3, j_eq, j_no, j_nk, ltd, bnd]
theorem m_isDig {v : Int} (v0 : -1 ≤ v) (v1 : v ≤ 255) (s : ST) : f_X10_isDigit (Int32.ofInt v) s = some (bI (isD v), s) := by
  unfold isD
  by_cases e1 : v < 48
  · rw [decide_eq_false (by omega)]
    simp (disch := omega) only [f_X10_isDigit, bI_f, n_i8, n_i16, n_0, n_31, n_add, n_sub, n_mul, n_neg, n_div, n_rem, n_le_t, n_le_f, n_lt_t, n_lt_f, n_eq_t, n_eq_f, n_cl, n_gd, n_gdt, n_nz, Int.reduceToNat, Int.reduceAdd, Int.reduceSub, Int.reduceMul, Int.reduceNeg, Int.reduceLT, Int.reduceLE, Int.reduceEq, Int.reduceDiv, Int.reduceMod, Nat.reduceAdd, Nat.reduceMul, ↓reduceIte, u_eq, u_no, u_nk, u_ek, u_2, u_3, j_1, j_3, j_eq, j_no, j_nk, ltd, bnd]
  by_cases e2 : 57 < v
  · rw [decide_eq_false (by omega)]
    simp (disch := omega) only [f_X10_isDigit, bI_f, n_i8, n_i16, n_0, n_31, n_add, n_sub, n_mul, n_neg, n_div, n_rem, n_le_t, n_le_f, n_lt_t, n_lt_f, n_eq_t, n_eq_f, n_cl, n_gd, n_gdt, n_nz, Int.reduceToNat, Int.reduceAdd, Int.reduceSub, Int.reduceMul, Int.reduceNeg, Int.reduceLT, Int.reduceLE, Int.reduceEq, Int.reduceDiv, Int.reduceMod, Nat.reduceAdd, Nat.reduceMul, ↓reduceIte, u_eq, u_no, u_nk, u_ek, u_2, u_3, j_1, j_3, j_eq, j_no, j_nk, ltd, bnd]
  · rw [decide_eq_true (by omega)]
    simp (disch := omega) only [f_X10_isDigit, bI_t, n_i8, n_i16, n_0, n_31, n_add, n_sub, n_mul, n_neg, n_div, n_rem, n_le_t, n_le_f, n_lt_t, n_lt_f, n_eq_t, n_eq_f, n_cl, n_gd, n_gdt, n_nz, Int.reduceToNat, Int.reduceAdd, Int.reduceSub, Int.reduceMul, Int.reduceNeg, Int.reduceLT, Int.reduceLE, Int.reduceEq, Int.reduceDiv, Int.reduceMod, Nat.reduceAdd, Nat.reduceMul, ↓reduceIte, u_eq, u_no, u_nk, u_ek, u_2, u_3, j_1, j_3, j_eq, j_no, j_nk, ltd, bnd]
theorem m_here_a {T : Int → Int} {n a d : Int} {s : ST} (h : RX T n a d s) (o : Nat) (K : Nat → Int32 → ST → Option (Int32 × ST)) : ∀ (m F : Nat) (i : Int), 0 ≤ i → (n - i).toNat = m → m < F → i ≤ n → f_X10_isHere_L35 K F o (Int32.ofInt i) s = K o (Int32.ofInt (sk isL T n i)) s := by
  obtain ⟨⟨h1, h3, h4⟩, ⟨h5, h5b, h5c⟩, h6, h7⟩ := h
  intro m
  induction m with
  | zero =>
    intro F i i0 hm hF i1
    obtain ⟨F, rfl⟩ : ∃ F', F = F' + 1 := ⟨F - 1, by omega⟩
    rw [sk_ge (by omega)]
    simp (disch := omega) only [f_X10_isHere_L35, h3, n_i8, n_i16, n_0, n_31, n_add, n_sub, n_mul, n_neg, n_div, n_rem, n_le_t, n_le_f, n_lt_t, n_lt_f, n_eq_t, n_eq_f, n_cl, n_gd, n_gdt, n_nz, Int.reduceToNat, Int.reduceAdd, Int.reduceSub, Int.reduceMul, Int.reduceNeg, Int.reduceLT, Int.reduceLE, Int.reduceEq, Int.reduceDiv, Int.reduceMod, Nat.reduceAdd, Nat.reduceMul, ↓reduceIte, u_eq, u_no, u_nk, u_ek, u_2, u_3, j_1, j_3, j_eq, j_no, j_nk, ltd, bnd]
  | succ m ih =>
    intro F i i0 hm hF i1
    obtain ⟨F, rfl⟩ : ∃ F', F = F' + 1 := ⟨F - 1, by omega⟩
    obtain ⟨t1, t2⟩ := h1 i i0 (by omega)
    have hl := m_isLet (v := T i) (by omega) (by omega) s
    cases e : isL (T i) with
    | true =>
      rw [e] at hl
      rw [sk_t (by omega) e, ← ih F (i + 1) (by omega) (by omega) (by omega) (by omega), f_X10_isHere_L35]
      simp (disch := omega) only [h3, t1, hl, bI_t, n_i8, n_i16, n_0, n_31, n_add, n_sub, n_mul, n_neg, n_div, n_rem, n_le_t, n_le_f, n_lt_t, n_lt_f, n_eq_t, n_eq_f, n_cl, n_gd, n_gdt, n_nz, Int.reduceToNat, Int.reduceAdd, Int.reduceSub, Int.reduceMul, Int.reduceNeg, Int.reduceLT, Int.reduceLE, Int.reduceEq, Int.reduceDiv, Int.reduceMod, Nat.reduceAdd, Nat.reduceMul, ↓reduceIte, u_eq, u_no, u_nk, u_ek, u_2, u_3, j_1, j_3, j_eq, j_no, j_nk, ltd, bnd]
    | false =>
      rw [e] at hl
      rw [sk_f e]
      simp (disch := omega) only [f_X10_isHere_L35, h3, t1, hl, bI_f, n_i8, n_i16, n_0, n_31, n_add, n_sub, n_mul, n_neg, n_div, n_rem, n_le_t, n_le_f, n_lt_t, n_lt_f, n_eq_t, n_eq_f, n_cl, n_gd, n_gdt, n_nz, Int.reduceToNat, Int.reduceAdd, Int.reduceSub, Int.reduceMul, Int.reduceNeg, Int.reduceLT, Int.reduceLE, Int.reduceEq, Int.reduceDiv, Int.reduceMod, Nat.reduceAdd, Nat.reduceMul, ↓reduceIte, u_eq, u_no, u_nk, u_ek, u_2, u_3, j_1, j_3, j_eq, j_no, j_nk, ltd, bnd]
theorem wce_k : ∀ o : Nat, o < 146 → ((68 ≤ o ∧ o ≤ 100) ∨ (123 ≤ o ∧ o ≤ 145)) → kr o = true ∧ kk o 12 = true ∧ (K0 o).2 = (WDl (wno o)).length ∧ (WDl (wno o)).length ≤ 6 ∧ 2 ≤ (WDl (wno o)).length ∧ ∀ v ∈ WDl (wno o), 97 ≤ v ∧ v ≤ 122 := by decide +kernel
theorem m_here_b {T : Int → Int} {n a d : Int} {s : ST} (h : RX T n a d s) (hw : WDS s) {o : Nat} (ho : wce o) (hn : a + ((WDl (wno o)).length : Int) ≤ n) : ∀ (m F : Nat) (i : Int), 0 ≤ i → (m : Int) = ((WDl (wno o)).length : Int) - i → m < F → f_X10_isHere_L76 F o (Int32.ofInt i) s = some (bI (decide (wl T (a + i) m = (WDl (wno o)).drop i.toNat)), s) := by
  have hob : o < 146 := by unfold wce at ho; omega
  obtain ⟨k1, k2, k3, k4, -, k6⟩ := wce_k o hob ho
  have g1 : ∀ {α : Type} {x : Option α}, gd (kr o) x = x := by intro α x; rw [k1]; rfl
  have g2 : ∀ {α : Type} {x : Option α}, gd (kk o 12) x = x := by intro α x; rw [k2]; rfl
  have g3 : Int32.ofNat (K0 o).2 = Int32.ofInt (((WDl (wno o)).length : Nat) : Int) := by rw [k3]; exact (Int32.ofInt_eq_ofNat).symm
  obtain ⟨⟨h1, h3, h4⟩, ⟨h5, h5b, h5c⟩, h6, h7⟩ := h
  have hws : ∀ j : Nat, j < (WDl (wno o)).length → s.1 o j = Int32.ofInt ((WDl (wno o)).getD j 0) := fun j hj => hw o j ho hj
  generalize WDl (wno o) = l at *
  have g4 : Int32.ofNat l.length = Int32.ofInt (l.length : Int) := (Int32.ofInt_eq_ofNat).symm
  intro m
  induction m with
  | zero =>
    intro F i i0 hm hF
    obtain ⟨F, rfl⟩ : ∃ F', F = F' + 1 := ⟨F - 1, by omega⟩
    rw [List.drop_of_length_le (by omega), decide_eq_true (show wl T (a + i) 0 = [] from rfl)]
    simp (disch := omega) only [f_X10_isHere_L76, g1, g3, bI_t, n_i8, n_i16, n_0, n_31, n_add, n_sub, n_mul, n_neg, n_div, n_rem, n_le_t, n_le_f, n_lt_t, n_lt_f, n_eq_t, n_eq_f, n_cl, n_gd, n_gdt, n_nz, Int.reduceToNat, Int.reduceAdd, Int.reduceSub, Int.reduceMul, Int.reduceNeg, Int.reduceLT, Int.reduceLE, Int.reduceEq, Int.reduceDiv, Int.reduceMod, Nat.reduceAdd, Nat.reduceMul, ↓reduceIte, u_eq, u_no, u_nk, u_ek, u_2, u_3, j_1, j_3, j_eq, j_no, j_nk, ltd, bnd]
  | succ m ih =>
    intro F i i0 hm hF
    obtain ⟨F, rfl⟩ : ∃ F', F = F' + 1 := ⟨F - 1, by omega⟩
    have hil : i.toNat < l.length := by omega
    obtain ⟨t1, t2⟩ := h1 (a + i) (by omega) (by omega)
    have hc := hws i.toNat hil
    have hg : l.getD i.toNat 0 = l[i.toNat] := by rw [List.getD_eq_getElem?_getD, List.getElem?_eq_getElem hil]; rfl
    have hbl := k6 _ (List.getElem_mem hil)
    rw [hg] at hc
    rw [List.drop_eq_getElem_cons hil]
    generalize l[i.toNat] = v at *
    have ih := ih F (i + 1) (by omega) (by omega) (by omega)
    rw [show (i + 1).toNat = i.toNat + 1 by omega, show a + (i + 1) = a + i + 1 by omega] at ih
    have hw1 : wl T (a + i) (m + 1) = T (a + i) :: wl T (a + i + 1) m := rfl
    rw [hw1]
    by_cases e : T (a + i) = v
    · have e2 : decide (T (a + i) :: wl T (a + i + 1) m = v :: l.drop (i.toNat + 1)) = decide (wl T (a + i + 1) m = l.drop (i.toNat + 1)) := by
        refine decide_eq_decide.mpr ⟨fun x => (List.cons.inj x).2, fun x => by rw [e, x]⟩
      rw [e2, ← ih, f_X10_isHere_L76]
      rw [← e] at hc
      simp (disch := omega) only [g1, g2, g3, g4, k3, h5, t1, hc, n_i8, n_i16, n_0, n_31, n_add, n_sub, n_mul, n_neg, n_div, n_rem, n_le_t, n_le_f, n_lt_t, n_lt_f, n_eq_t, n_eq_f, n_cl, n_gd, n_gdt, n_nz, Int.reduceToNat, Int.reduceAdd, Int.reduceSub, Int.reduceMul, Int.reduceNeg, Int.reduceLT, Int.reduceLE, Int.reduceEq, Int.reduceDiv, Int.reduceMod, Nat.reduceAdd, Nat.reduceMul, ↓reduceIte, u_eq, u_no, u_nk, u_ek, u_2, u_3, j_1, j_3, j_eq, j_no, j_nk, ltd, bnd]
    · have e2 : decide (T (a + i) :: wl T (a + i + 1) m = v :: l.drop (i.toNat + 1)) = false := decide_eq_false (fun x => e (List.cons.inj x).1)
      rw [e2]
      simp (disch := omega) only [f_X10_isHere_L76, g1, g2, g3, g4, k3, h5, t1, hc, bI_f, n_i8, n_i16, n_0, n_31, n_add, n_sub, n_mul, n_neg, n_div, n_rem, n_le_t, n_le_f, n_lt_t, n_lt_f, n_eq_t, n_eq_f, n_cl, n_gd, n_gdt, n_nz, Int.reduceToNat, Int.reduceAdd, Int.reduceSub, Int.reduceMul, Int.reduceNeg, Int.reduceLT, Int.reduceLE, Int.reduceEq, Int.reduceDiv, Int.reduceMod, Nat.reduceAdd, Nat.reduceMul, ↓reduceIte, u_eq, u_no, u_nk, u_ek, u_2, u_3, j_1, j_3, j_eq, j_no, j_nk, ltd, bnd]
theorem adj_d {T : Int → Int} {n : Int} {c : Cur} {a d : Int} (h : cuR T n c a d) : (adj T n c = true ↔ frm T n c = d) := by
  obtain ⟨-, ⟨h1, h2⟩, h3, h4⟩ := h
  have hb := frm_b (T := T) h1 h2
  unfold adj
  cases e : c.2 with
  | true =>
    have := h3 e
    rw [Bool.true_and, decide_eq_true_iff]
    omega
  | false =>
    have := h4 e
    rw [Bool.false_and]
    constructor
    · intro x; cases x
    · intro x; omega
theorem lkV_b {T : Int → Int} {n : Int} {s : ST} (h : TC T n s) {f : Int} (f0 : 0 ≤ f) : -1 ≤ lkV T n f ∧ lkV T n f ≤ 255 := by
  unfold lkV
  split
  · have := (h f f0 (by omega)).2; omega
  · omega
theorem m_lookL {T : Int → Int} {n : Int} {c : Cur} {s : ST} (h : RLk T n c s) : f_X10_look s = some (Int32.ofInt (lkV T n (frm T n c)), s) := by
  obtain ⟨d, hx, hc⟩ := h
  obtain ⟨⟨h1, h3, h4⟩, ⟨h5, h5b, h5c⟩, h6, h7⟩ := hx
  obtain ⟨F, hF⟩ : ∃ F, fuel = F + 1 := ⟨99999, rfl⟩
  unfold f_X10_look
  rw [hF]
  unfold lkV
  by_cases e : frm T n c < n
  · obtain ⟨t1, t2⟩ := h1 _ h5b e
    obtain ⟨-, -, -, k4⟩ := sk_b (p := isBk) (T := T) (n := n) _ c.1 rfl
    have hbk : ¬ (T (frm T n c) = 10 ∨ T (frm T n c) = 32) := of_decide_eq_false (k4 e)
    rw [if_pos e]
    simp (disch := omega) only [f_X10_look_L0, f_X10_look_j52, h3, h5, t1, n_i8, n_i16, n_0, n_31, n_add, n_sub, n_mul, n_neg, n_div, n_rem, n_le_t, n_le_f, n_lt_t, n_lt_f, n_eq_t, n_eq_f, n_cl, n_gd, n_gdt, n_nz, Int.reduceToNat, Int.reduceAdd, Int.reduceSub, Int.reduceMul, Int.reduceNeg, Int.reduceLT, Int.reduceLE, Int.reduceEq, Int.reduceDiv, Int.reduceMod, Nat.reduceAdd, Nat.reduceMul, ↓reduceIte, u_eq, u_no, u_nk, u_ek, u_2, u_3, j_1, j_3, j_eq, j_no, j_nk, ltd, bnd]
  · rw [if_neg e]
    simp (disch := omega) only [f_X10_look_L0, f_X10_look_j52, h3, h5, n_i8, n_i16, n_0, n_31, n_add, n_sub, n_mul, n_neg, n_div, n_rem, n_le_t, n_le_f, n_lt_t, n_lt_f, n_eq_t, n_eq_f, n_cl, n_gd, n_gdt, n_nz, Int.reduceToNat, Int.reduceAdd, Int.reduceSub, Int.reduceMul, Int.reduceNeg, Int.reduceLT, Int.reduceLE, Int.reduceEq, Int.reduceDiv, Int.reduceMod, Nat.reduceAdd, Nat.reduceMul, ↓reduceIte, u_eq, u_no, u_nk, u_ek, u_2, u_3, j_1, j_3, j_eq, j_no, j_nk, ltd, bnd]
theorem m_isHereL {T : Int → Int} {n : Int} {c : Cur} {s1 : ST} (q2 : RLk T n c s1) (hw1 : WDS s1) {o : Nat} (ho : wce o) : f_X10_isHere o s1 = some (bI (isWL T n c (WDl (wno o))), s1) := by
  have hob : o < 146 := by unfold wce at ho; omega
  obtain ⟨k1, k2, k3, k4, -, k6⟩ := wce_k o hob ho
  have g1 : ∀ {α : Type} {x : Option α}, gd (kr o) x = x := by intro α x; rw [k1]; rfl
  have g3 : Int32.ofNat (K0 o).2 = Int32.ofInt (((WDl (wno o)).length : Nat) : Int) := by rw [k3]; exact (Int32.ofInt_eq_ofNat).symm
  have hbad : s1.1 65 5 = Int32.ofInt 0 := by obtain ⟨d, x, -⟩ := q2; exact x.2.2.2.1
  have q1 := m_lookL q2
  obtain ⟨d, hx, hc⟩ := q2
  have hx' := hx
  obtain ⟨⟨h1, h3, h4⟩, ⟨h5, h5b, h5c⟩, ⟨h6, h6b, h6c⟩, h7⟩ := hx'
  have hlb := lkV_b h1 h5b
  have hil := m_isLet (v := lkV T n (frm T n c)) (by omega) (by omega) s1
  have had := adj_d hc
  have ef : f_X10_isHere o s1 = (f_X10_isLetter (Int32.ofInt (lkV T n (frm T n c))) s1).bind (fun q3 => (if q3.1 = 0 then some ((Int32.ofInt 0), q3.2) else (if (q3.2.1 65 2) = (q3.2.1 65 4) then some ((Int32.ofInt 0), q3.2) else (f_X10_isHere_L35 f_X10_isHere_j61 fuel) o (q3.2.1 65 2) q3.2))) := by
    simp (disch := omega) only [f_X10_isHere, hbad, q1, n_i8, n_i16, n_0, n_31, n_add, n_sub, n_mul, n_neg, n_div, n_rem, n_le_t, n_le_f, n_lt_t, n_lt_f, n_eq_t, n_eq_f, n_cl, n_gd, n_gdt, n_nz, Int.reduceToNat, Int.reduceAdd, Int.reduceSub, Int.reduceMul, Int.reduceNeg, Int.reduceLT, Int.reduceLE, Int.reduceEq, Int.reduceDiv, Int.reduceMod, Nat.reduceAdd, Nat.reduceMul, ↓reduceIte, u_eq, u_no, u_nk, u_ek, u_2, u_3, j_1, j_3, j_eq, j_no, j_nk, ltd, bnd]
  rw [ef, hil, bnd]
  unfold isWL isW
  by_cases e1 : frm T n c < n
  · have elk : lkV T n (frm T n c) = T (frm T n c) := by unfold lkV; rw [if_pos e1]
    rw [elk, decide_eq_true e1, Bool.true_and]
    cases e2 : isL (T (frm T n c)) with
    | false =>
      rw [Bool.false_and, Bool.false_and]
      simp (disch := omega) only [bI_f, n_i8, n_i16, n_0, n_31, n_add, n_sub, n_mul, n_neg, n_div, n_rem, n_le_t, n_le_f, n_lt_t, n_lt_f, n_eq_t, n_eq_f, n_cl, n_gd, n_gdt, n_nz, Int.reduceToNat, Int.reduceAdd, Int.reduceSub, Int.reduceMul, Int.reduceNeg, Int.reduceLT, Int.reduceLE, Int.reduceEq, Int.reduceDiv, Int.reduceMod, Nat.reduceAdd, Nat.reduceMul, ↓reduceIte, u_eq, u_no, u_nk, u_ek, u_2, u_3, j_1, j_3, j_eq, j_no, j_nk, ltd, bnd]
    | true =>
      rw [Bool.true_and]
      cases e3 : adj T n c with
      | true =>
        have := had.mp e3
        simp (disch := omega) only [h5, h6, bI_t, bI_f, Bool.not_true, Bool.false_and, n_i8, n_i16, n_0, n_31, n_add, n_sub, n_mul, n_neg, n_div, n_rem, n_le_t, n_le_f, n_lt_t, n_lt_f, n_eq_t, n_eq_f, n_cl, n_gd, n_gdt, n_nz, Int.reduceToNat, Int.reduceAdd, Int.reduceSub, Int.reduceMul, Int.reduceNeg, Int.reduceLT, Int.reduceLE, Int.reduceEq, Int.reduceDiv, Int.reduceMod, Nat.reduceAdd, Nat.reduceMul, ↓reduceIte, u_eq, u_no, u_nk, u_ek, u_2, u_3, j_1, j_3, j_eq, j_no, j_nk, ltd, bnd]
      | false =>
        have hnd : ¬ frm T n c = d := fun x => by rw [had.mpr x] at e3; cases e3
        have hL := m_here_a hx o f_X10_isHere_j61 (n - frm T n c).toNat fuel (frm T n c) h5b rfl (by unfold fuel; omega) h5c
        obtain ⟨sb1, sb2, -, -⟩ := sk_b (p := isL) (T := T) (n := n) _ (frm T n c) rfl
        have sb2 := sb2 h5c
        have ef2 : (if bI true = 0 then some ((Int32.ofInt 0), s1) else (if (s1.1 65 2) = (s1.1 65 4) then some ((Int32.ofInt 0), s1) else (f_X10_isHere_L35 f_X10_isHere_j61 fuel) o (s1.1 65 2) s1)) = f_X10_isHere_j61 o (Int32.ofInt (sk isL T n (frm T n c))) s1 := by
          rw [← hL]
          simp (disch := omega) only [h5, h6, bI_t, n_i8, n_i16, n_0, n_31, n_add, n_sub, n_mul, n_neg, n_div, n_rem, n_le_t, n_le_f, n_lt_t, n_lt_f, n_eq_t, n_eq_f, n_cl, n_gd, n_gdt, n_nz, Int.reduceToNat, Int.reduceAdd, Int.reduceSub, Int.reduceMul, Int.reduceNeg, Int.reduceLT, Int.reduceLE, Int.reduceEq, Int.reduceDiv, Int.reduceMod, Nat.reduceAdd, Nat.reduceMul, ↓reduceIte, u_eq, u_no, u_nk, u_ek, u_2, u_3, j_1, j_3, j_eq, j_no, j_nk, ltd, bnd]
        refine Eq.trans ef2 ?_
        rw [Bool.not_false, Bool.true_and]
        unfold wd
        by_cases e4 : sk isL T n (frm T n c) - frm T n c = ((WDl (wno o)).length : Int)
        · have hB := m_here_b hx hw1 ho (by omega) (WDl (wno o)).length fuel 0 (by omega) (by omega) (by unfold fuel; omega)
          rw [show (0 : Int).toNat = 0 from rfl, List.drop_zero, Int.add_zero] at hB
          rw [show (sk isL T n (frm T n c) - frm T n c).toNat = (WDl (wno o)).length by omega, ← hB]
          simp (disch := omega) only [f_X10_isHere_j61, g1, g3, h5, n_i8, n_i16, n_0, n_31, n_add, n_sub, n_mul, n_neg, n_div, n_rem, n_le_t, n_le_f, n_lt_t, n_lt_f, n_eq_t, n_eq_f, n_cl, n_gd, n_gdt, n_nz, Int.reduceToNat, Int.reduceAdd, Int.reduceSub, Int.reduceMul, Int.reduceNeg, Int.reduceLT, Int.reduceLE, Int.reduceEq, Int.reduceDiv, Int.reduceMod, Nat.reduceAdd, Nat.reduceMul, ↓reduceIte, u_eq, u_no, u_nk, u_ek, u_2, u_3, j_1, j_3, j_eq, j_no, j_nk, ltd, bnd]
        · rw [decide_eq_false (wl_nl (by omega))]
          simp (disch := omega) only [f_X10_isHere_j61, g1, g3, h5, bI_f, n_i8, n_i16, n_0, n_31, n_add, n_sub, n_mul, n_neg, n_div, n_rem, n_le_t, n_le_f, n_lt_t, n_lt_f, n_eq_t, n_eq_f, n_cl, n_gd, n_gdt, n_nz, Int.reduceToNat, Int.reduceAdd, Int.reduceSub, Int.reduceMul, Int.reduceNeg, Int.reduceLT, Int.reduceLE, Int.reduceEq, Int.reduceDiv, Int.reduceMod, Nat.reduceAdd, Nat.reduceMul, ↓reduceIte, u_eq, u_no, u_nk, u_ek, u_2, u_3, j_1, j_3, j_eq, j_no, j_nk, ltd, bnd]
  · have elk : lkV T n (frm T n c) = -1 := by unfold lkV; rw [if_neg e1]
    rw [elk, decide_eq_false e1, Bool.false_and, Bool.false_and, Bool.false_and]
    rw [show isL (-1) = false by decide]
    simp (disch := omega) only [bI_f, n_i8, n_i16, n_0, n_31, n_add, n_sub, n_mul, n_neg, n_div, n_rem, n_le_t, n_le_f, n_lt_t, n_lt_f, n_eq_t, n_eq_f, n_cl, n_gd, n_gdt, n_nz, Int.reduceToNat, Int.reduceAdd, Int.reduceSub, Int.reduceMul, Int.reduceNeg, Int.reduceLT, Int.reduceLE, Int.reduceEq, Int.reduceDiv, Int.reduceMod, Nat.reduceAdd, Nat.reduceMul, ↓reduceIte, u_eq, u_no, u_nk, u_ek, u_2, u_3, j_1, j_3, j_eq, j_no, j_nk, ltd, bnd]
theorem m_isHere {T : Int → Int} {n : Int} {c : Cur} {s : ST} (h : RC T n c s) (hw : WDS s) {o : Nat} (ho : wce o) : ∃ s', f_X10_isHere o s = some (bI (isWL T n c (WDl (wno o))), s') ∧ RLk T n c s' ∧ RFa s s' := by
  have hbad : s.1 65 5 = Int32.ofInt 0 := by obtain ⟨a, d, x, -⟩ := h; exact x.2.2.2.1
  obtain ⟨s1, q1, q2, q3⟩ := m_look h
  have hbad1 : s1.1 65 5 = Int32.ofInt 0 := by obtain ⟨d, x, -⟩ := q2; exact x.2.2.2.1
  refine ⟨s1, ?_, q2, q3⟩
  rw [← m_isHereL q2 (WDS_fr hw (fun o k ho => q3.1 o k (by omega))) ho]
  have q1L := m_lookL q2
  simp (disch := omega) only [f_X10_isHere, hbad, hbad1, q1, q1L, n_i8, n_i16, n_0, n_31, n_add, n_sub, n_mul, n_neg, n_div, n_rem, n_le_t, n_le_f, n_lt_t, n_lt_f, n_eq_t, n_eq_f, n_cl, n_gd, n_gdt, n_nz, Int.reduceToNat, Int.reduceAdd, Int.reduceSub, Int.reduceMul, Int.reduceNeg, Int.reduceLT, Int.reduceLE, Int.reduceEq, Int.reduceDiv, Int.reduceMod, Nat.reduceAdd, Nat.reduceMul, ↓reduceIte, u_eq, u_no, u_nk, u_ek, u_2, u_3, j_1, j_3, j_eq, j_no, j_nk, ltd, bnd]
/-- a fault of the reference -/
def RB (k p : Int) (s : ST) : Prop := s.1 65 5 = Int32.ofInt k ∧ s.1 65 6 = Int32.ofInt p ∧ 1 ≤ k ∧ k ≤ 5
theorem RB.ne {k p : Int} {s : ST} (h : RB k p s) : ¬ s.1 65 5 = 0 := by
  rw [h.1, n_0, n_eq (by have := h.2.2; omega) (by have := h.2.2; omega) (by omega) (by omega)]
  have := h.2.2
  omega
theorem RLk.b {T : Int → Int} {n : Int} {c : Cur} {s : ST} (h : RLk T n c s) : s.1 65 5 = Int32.ofInt 0 ∧ s.1 65 2 = Int32.ofInt (frm T n c) ∧ (0 ≤ c.1 ∧ c.1 ≤ frm T n c ∧ frm T n c ≤ n ∧ n ≤ 1600) ∧ TC T n s := by
  obtain ⟨d, hx, hc⟩ := h
  have hb := frm_b (T := T) hc.2.1.1 hc.2.1.2
  exact ⟨hx.2.2.2.1, hx.2.1.1, ⟨hc.2.1.1, hb.1, hb.2, hx.1.2.2.2⟩, hx.1.1⟩
theorem RC.b {T : Int → Int} {n : Int} {c : Cur} {s : ST} (h : RC T n c s) : s.1 65 5 = Int32.ofInt 0 ∧ (0 ≤ c.1 ∧ c.1 ≤ frm T n c ∧ frm T n c ≤ n ∧ n ≤ 1600) ∧ TC T n s := by
  obtain ⟨a, d, hx, hc⟩ := h
  have hb := frm_b (T := T) hc.2.1.1 hc.2.1.2
  exact ⟨hx.2.2.2.1, ⟨hc.2.1.1, hb.1, hb.2, hx.1.2.2.2⟩, hx.1.1⟩
theorem RC_fr {T : Int → Int} {n : Int} {c : Cur} {s s' : ST} (h : RC T n c s) (h1 : s'.1 65 2 = s.1 65 2) (h2 : s'.1 65 3 = s.1 65 3) (h3 : s'.1 65 4 = s.1 65 4) (h4 : s'.1 65 5 = s.1 65 5) (h4b : s'.1 65 6 = s.1 65 6) (h5 : ∀ k : Nat, s'.1 66 k = s.1 66 k) : RC T n c s' := by
  obtain ⟨a, d, ⟨⟨x1, x2, x3⟩, ⟨x4, x5⟩, ⟨x6, x7⟩, x8⟩, hc⟩ := h
  exact ⟨a, d, ⟨⟨fun j j0 j1 => ⟨(h5 _).trans (x1 j j0 j1).1, (x1 j j0 j1).2⟩, h2.trans x2, x3⟩, ⟨h1.trans x4, x5⟩, ⟨h3.trans x6, x7⟩, h4.trans x8.1, h4b.trans x8.2⟩, hc⟩
theorem RL_fr {T : Int → Int} {n : Int} {c : Cur} {s s' : ST} (h : RLk T n c s) (h1 : s'.1 65 2 = s.1 65 2) (h2 : s'.1 65 3 = s.1 65 3) (h3 : s'.1 65 4 = s.1 65 4) (h4 : s'.1 65 5 = s.1 65 5) (h4b : s'.1 65 6 = s.1 65 6) (h5 : ∀ k : Nat, s'.1 66 k = s.1 66 k) : RLk T n c s' := by
  obtain ⟨d, ⟨⟨x1, x2, x3⟩, ⟨x4, x5⟩, ⟨x6, x7⟩, x8⟩, hc⟩ := h
  exact ⟨d, ⟨⟨fun j j0 j1 => ⟨(h5 _).trans (x1 j j0 j1).1, (x1 j j0 j1).2⟩, h2.trans x2, x3⟩, ⟨h1.trans x4, x5⟩, ⟨h3.trans x6, x7⟩, h4.trans x8.1, h4b.trans x8.2⟩, hc⟩
theorem m_fail {k p : Int} {s : ST} (h : s.1 65 5 = Int32.ofInt 0) (k1 : 1 ≤ k) (k5 : k ≤ 5) : ∃ s', f_X10_fail (Int32.ofInt k) (Int32.ofInt p) s = some s' ∧ RB k p s' ∧ RPf s s' := by
  refine ⟨uI (uI s 65 5 (Int32.ofInt k)) 65 6 (Int32.ofInt p), ?_, ⟨?_, u_eq _ _ _ _, k1, k5⟩, ⟨fun o k hk => by (simp only [ua, ja, u_2, u_3, j_1, j_3]; (repeat' split) <;> first | rfl | (exfalso; omega)), rfl⟩⟩
  · simp (disch := omega) only [f_X10_fail, h, n_i8, n_i16, n_0, n_31, n_add, n_sub, n_mul, n_neg, n_div, n_rem, n_le_t, n_le_f, n_lt_t, n_lt_f, n_eq_t, n_eq_f, n_cl, n_gd, n_gdt, n_nz, Int.reduceToNat, Int.reduceAdd, Int.reduceSub, Int.reduceMul, Int.reduceNeg, Int.reduceLT, Int.reduceLE, Int.reduceEq, Int.reduceDiv, Int.reduceMod, Nat.reduceAdd, Nat.reduceMul, ↓reduceIte, u_eq, u_no, u_nk, u_ek, u_2, u_3, j_1, j_3, j_eq, j_no, j_nk, ltd, bnd]
  · rw [u_nk (by omega), u_eq]
theorem m_takes {T : Int → Int} {n : Int} {c : Cur} {s : ST} (h : RC T n c s) (hw : WDS s) {o : Nat} (ho : wce o) : ∃ s', f_X10_takes o s = some (bI (isWL T n c (WDl (wno o))), s') ∧ (isWL T n c (WDl (wno o)) = true → RC T n (nxW T n c) s') ∧ (isWL T n c (WDl (wno o)) = false → RLk T n c s') ∧ RPf s s' := by
  have hob : o < 146 := by unfold wce at ho; omega
  obtain ⟨k1, k2, k3, k4, k5, k6⟩ := wce_k o hob ho
  have g1 : ∀ {α : Type} {x : Option α}, gd (kr o) x = x := by intro α x; rw [k1]; rfl
  have g3 : Int32.ofNat (K0 o).2 = Int32.ofInt (((WDl (wno o)).length : Nat) : Int) := by rw [k3]; exact (Int32.ofInt_eq_ofNat).symm
  obtain ⟨s1, q1, q2, q3⟩ := m_isHere h hw ho
  obtain ⟨d, hx, hc⟩ := q2
  have hx' := hx
  obtain ⟨⟨h1, h3, h4⟩, ⟨h5, h5b, h5c⟩, ⟨h6, h6b, h6c⟩, h7⟩ := hx'
  cases e : isWL T n c (WDl (wno o)) with
  | false =>
    rw [e] at q1
    refine ⟨s1, ?_, fun x => (by cases x), fun _ => ⟨d, hx, hc⟩, q3.rp⟩
    simp (disch := omega) only [f_X10_takes, q1, bI_f, n_i8, n_i16, n_0, n_31, n_add, n_sub, n_mul, n_neg, n_div, n_rem, n_le_t, n_le_f, n_lt_t, n_lt_f, n_eq_t, n_eq_f, n_cl, n_gd, n_gdt, n_nz, Int.reduceToNat, Int.reduceAdd, Int.reduceSub, Int.reduceMul, Int.reduceNeg, Int.reduceLT, Int.reduceLE, Int.reduceEq, Int.reduceDiv, Int.reduceMod, Nat.reduceAdd, Nat.reduceMul, ↓reduceIte, u_eq, u_no, u_nk, u_ek, u_2, u_3, j_1, j_3, j_eq, j_no, j_nk, ltd, bnd]
  | true =>
    rw [e] at q1
    have hwd : wd T n c = WDl (wno o) := by
      unfold isWL at e
      rw [Bool.and_eq_true, decide_eq_true_iff] at e
      exact e.2
    obtain ⟨sb1, sb2, -, -⟩ := sk_b (p := isL) (T := T) (n := n) _ (frm T n c) rfl
    have sb2 := sb2 h5c
    have hlen : frm T n c + ((WDl (wno o)).length : Int) = sk isL T n (frm T n c) := by
      rw [← hwd]
      unfold wd
      rw [wl_len]
      omega
    have hf : RPf s1 (uI (uI s1 65 2 (Int32.ofInt (sk isL T n (frm T n c)))) 65 4 (Int32.ofInt (sk isL T n (frm T n c)))) := ⟨fun o k x => by (simp only [ua, ja, u_2, u_3, j_1, j_3]; (repeat' split) <;> first | rfl | (exfalso; omega)), rfl⟩
    refine ⟨uI (uI s1 65 2 (Int32.ofInt (sk isL T n (frm T n c)))) 65 4 (Int32.ofInt (sk isL T n (frm T n c))), ?_, fun _ => ⟨sk isL T n (frm T n c), sk isL T n (frm T n c), ⟨⟨fun j j0 j1 => ⟨(hf.1 66 _ (by omega)).trans (h1 j j0 j1).1, (h1 j j0 j1).2⟩, (hf.1 65 3 (by omega)).trans h3, h4⟩, ⟨?_, by omega, by omega⟩, ⟨u_eq _ _ _ _, by omega, by omega⟩, ?_, ?_⟩, Or.inl rfl, ⟨?_, sb2⟩, fun _ => rfl, fun x => (by cases x)⟩, fun x => (by cases x), q3.rp.tr hf⟩
    · simp (disch := omega) only [f_X10_takes, q1, g1, g3, h5, hlen, bI_t, n_i8, n_i16, n_0, n_31, n_add, n_sub, n_mul, n_neg, n_div, n_rem, n_le_t, n_le_f, n_lt_t, n_lt_f, n_eq_t, n_eq_f, n_cl, n_gd, n_gdt, n_nz, Int.reduceToNat, Int.reduceAdd, Int.reduceSub, Int.reduceMul, Int.reduceNeg, Int.reduceLT, Int.reduceLE, Int.reduceEq, Int.reduceDiv, Int.reduceMod, Nat.reduceAdd, Nat.reduceMul, ↓reduceIte, u_eq, u_no, u_nk, u_ek, u_2, u_3, j_1, j_3, j_eq, j_no, j_nk, ltd, bnd]
    · rw [u_nk (by omega), u_eq]
    · rw [u_nk (by omega), u_nk (by omega)]; exact h7.1
    · rw [u_nk (by omega), u_nk (by omega)]; exact h7.2
    · show (0 : Int) ≤ sk isL T n (frm T n c)
      omega
theorem m_asks {T : Int → Int} {n : Int} {c : Cur} {s : ST} (h : RC T n c s) (hw : WDS s) {o : Nat} (ho : wce o) : ∃ s', f_X10_asks o s = some s' ∧ (isWL T n c (WDl (wno o)) = true → RC T n (nxW T n c) s') ∧ (isWL T n c (WDl (wno o)) = false → RB 1 (frm T n c) s') ∧ RPf s s' := by
  have hbad := h.b.1
  obtain ⟨s1, q1, q2, q3, q4⟩ := m_takes h hw ho
  cases e : isWL T n c (WDl (wno o)) with
  | true =>
    rw [e] at q1
    refine ⟨s1, ?_, fun _ => q2 e, fun x => (by cases x), q4⟩
    simp (disch := omega) only [f_X10_asks, hbad, q1, bI_t, n_i8, n_i16, n_0, n_31, n_add, n_sub, n_mul, n_neg, n_div, n_rem, n_le_t, n_le_f, n_lt_t, n_lt_f, n_eq_t, n_eq_f, n_cl, n_gd, n_gdt, n_nz, Int.reduceToNat, Int.reduceAdd, Int.reduceSub, Int.reduceMul, Int.reduceNeg, Int.reduceLT, Int.reduceLE, Int.reduceEq, Int.reduceDiv, Int.reduceMod, Nat.reduceAdd, Nat.reduceMul, ↓reduceIte, u_eq, u_no, u_nk, u_ek, u_2, u_3, j_1, j_3, j_eq, j_no, j_nk, ltd, bnd]
  | false =>
    rw [e] at q1
    have hl := q3 e
    obtain ⟨s2, r1, r2, r3⟩ := m_fail (k := 1) (p := frm T n c) hl.b.1 (by omega) (by omega)
    refine ⟨s2, ?_, fun x => (by cases x), fun _ => r2, q4.tr r3⟩
    have := hl.b.2.1
    simp (disch := omega) only [f_X10_asks, hbad, q1, this, r1, bI_f, n_i8, n_i16, n_0, n_31, n_add, n_sub, n_mul, n_neg, n_div, n_rem, n_le_t, n_le_f, n_lt_t, n_lt_f, n_eq_t, n_eq_f, n_cl, n_gd, n_gdt, n_nz, Int.reduceToNat, Int.reduceAdd, Int.reduceSub, Int.reduceMul, Int.reduceNeg, Int.reduceLT, Int.reduceLE, Int.reduceEq, Int.reduceDiv, Int.reduceMod, Nat.reduceAdd, Nat.reduceMul, ↓reduceIte, u_eq, u_no, u_nk, u_ek, u_2, u_3, j_1, j_3, j_eq, j_no, j_nk, ltd, bnd]
theorem m_asksB {k p : Int} {s : ST} (h : RB k p s) (o : Nat) : f_X10_asks o s = some s := by
  unfold f_X10_asks
  rw [if_neg h.ne]
theorem m_tsign {T : Int → Int} {n : Int} {c : Cur} {s : ST} (h : RC T n c s) {ch : Int} (c0 : 0 ≤ ch) (c1 : ch ≤ 255) : ∃ s', f_X10_takesSign (Int32.ofInt ch) s = some (bI (isSg T n c ch), s') ∧ (isSg T n c ch = true → RC T n (nxS T n c) s' ∧ s'.1 65 2 = Int32.ofInt (frm T n c + 1)) ∧ (isSg T n c ch = false → RLk T n c s') ∧ RFa s s' := by
  have hbad := h.b.1
  obtain ⟨s1, q1, q2, q3⟩ := m_look h
  have hq := q2
  obtain ⟨d, hx, hc⟩ := q2
  have hx' := hx
  obtain ⟨⟨h1, h3, h4⟩, ⟨h5, h5b, h5c⟩, ⟨h6, h6b, h6c⟩, h7⟩ := hx'
  have hb := hq.b.2.2.1
  have hlb := lkV_b h1 h5b
  unfold isSg
  by_cases e1 : frm T n c < n
  · have elk : lkV T n (frm T n c) = T (frm T n c) := by unfold lkV; rw [if_pos e1]
    rw [decide_eq_true e1, Bool.true_and]
    rw [elk] at q1 hlb
    by_cases e2 : T (frm T n c) = ch
    · rw [decide_eq_true e2]
      have hf : RFa s1 (uI s1 65 2 (Int32.ofInt (frm T n c + 1))) := ⟨fun o k x => by (simp only [ua, ja, u_2, u_3, j_1, j_3]; (repeat' split) <;> first | rfl | (exfalso; omega)), rfl⟩
      refine ⟨uI s1 65 2 (Int32.ofInt (frm T n c + 1)), ?_, fun _ => ⟨⟨frm T n c + 1, d, RX_a hx (u_eq _ _ _ _) (by omega) (by omega) hf, Or.inl rfl, ⟨?_, ?_⟩, fun x => (by cases x), fun _ => ?_⟩, u_eq _ _ _ _⟩, fun x => (by cases x), ⟨fun o k x => (hf.1 o k x).trans (q3.1 o k x), hf.2.trans q3.2⟩⟩
      · simp (disch := omega) only [f_X10_takesSign, hbad, q1, h5, bI_t, n_i8, n_i16, n_0, n_31, n_add, n_sub, n_mul, n_neg, n_div, n_rem, n_le_t, n_le_f, n_lt_t, n_lt_f, n_eq_t, n_eq_f, n_cl, n_gd, n_gdt, n_nz, Int.reduceToNat, Int.reduceAdd, Int.reduceSub, Int.reduceMul, Int.reduceNeg, Int.reduceLT, Int.reduceLE, Int.reduceEq, Int.reduceDiv, Int.reduceMod, Nat.reduceAdd, Nat.reduceMul, ↓reduceIte, u_eq, u_no, u_nk, u_ek, u_2, u_3, j_1, j_3, j_eq, j_no, j_nk, ltd, bnd]
      · show (0 : Int) ≤ frm T n c + 1
        omega
      · show frm T n c + 1 ≤ n
        omega
      · show d < frm T n c + 1
        cases e3 : c.2 with
        | true => have := hc.2.2.1 e3; omega
        | false => have := hc.2.2.2 e3; omega
    · rw [decide_eq_false e2]
      refine ⟨s1, ?_, fun x => (by cases x), fun _ => hq, q3⟩
      simp (disch := omega) only [f_X10_takesSign, hbad, q1, bI_f, n_i8, n_i16, n_0, n_31, n_add, n_sub, n_mul, n_neg, n_div, n_rem, n_le_t, n_le_f, n_lt_t, n_lt_f, n_eq_t, n_eq_f, n_cl, n_gd, n_gdt, n_nz, Int.reduceToNat, Int.reduceAdd, Int.reduceSub, Int.reduceMul, Int.reduceNeg, Int.reduceLT, Int.reduceLE, Int.reduceEq, Int.reduceDiv, Int.reduceMod, Nat.reduceAdd, Nat.reduceMul, ↓reduceIte, u_eq, u_no, u_nk, u_ek, u_2, u_3, j_1, j_3, j_eq, j_no, j_nk, ltd, bnd]
  · have elk : lkV T n (frm T n c) = -1 := by unfold lkV; rw [if_neg e1]
    rw [decide_eq_false e1, Bool.false_and]
    rw [elk] at q1
    refine ⟨s1, ?_, fun x => (by cases x), fun _ => hq, q3⟩
    simp (disch := omega) only [f_X10_takesSign, hbad, q1, bI_f, n_i8, n_i16, n_0, n_31, n_add, n_sub, n_mul, n_neg, n_div, n_rem, n_le_t, n_le_f, n_lt_t, n_lt_f, n_eq_t, n_eq_f, n_cl, n_gd, n_gdt, n_nz, Int.reduceToNat, Int.reduceAdd, Int.reduceSub, Int.reduceMul, Int.reduceNeg, Int.reduceLT, Int.reduceLE, Int.reduceEq, Int.reduceDiv, Int.reduceMod, Nat.reduceAdd, Nat.reduceMul, ↓reduceIte, u_eq, u_no, u_nk, u_ek, u_2, u_3, j_1, j_3, j_eq, j_no, j_nk, ltd, bnd]
theorem m_asign {T : Int → Int} {n : Int} {c : Cur} {s : ST} (h : RC T n c s) {ch : Int} (c0 : 0 ≤ ch) (c1 : ch ≤ 255) : ∃ s', f_X10_asksSign (Int32.ofInt ch) s = some s' ∧ (isSg T n c ch = true → RC T n (nxS T n c) s') ∧ (isSg T n c ch = false → RB 1 (frm T n c) s') ∧ RPf s s' := by
  have hbad := h.b.1
  obtain ⟨s1, q1, q2, q3, q4⟩ := m_tsign h c0 c1
  cases e : isSg T n c ch with
  | true =>
    rw [e] at q1
    refine ⟨s1, ?_, fun _ => (q2 e).1, fun x => (by cases x), q4.rp⟩
    simp (disch := omega) only [f_X10_asksSign, hbad, q1, bI_t, n_i8, n_i16, n_0, n_31, n_add, n_sub, n_mul, n_neg, n_div, n_rem, n_le_t, n_le_f, n_lt_t, n_lt_f, n_eq_t, n_eq_f, n_cl, n_gd, n_gdt, n_nz, Int.reduceToNat, Int.reduceAdd, Int.reduceSub, Int.reduceMul, Int.reduceNeg, Int.reduceLT, Int.reduceLE, Int.reduceEq, Int.reduceDiv, Int.reduceMod, Nat.reduceAdd, Nat.reduceMul, ↓reduceIte, u_eq, u_no, u_nk, u_ek, u_2, u_3, j_1, j_3, j_eq, j_no, j_nk, ltd, bnd]
  | false =>
    rw [e] at q1
    have hl := q3 e
    obtain ⟨s2, r1, r2, r3⟩ := m_fail (k := 1) (p := frm T n c) hl.b.1 (by omega) (by omega)
    refine ⟨s2, ?_, fun x => (by cases x), fun _ => r2, q4.rp.tr r3⟩
    have := hl.b.2.1
    simp (disch := omega) only [f_X10_asksSign, hbad, q1, this, r1, bI_f, n_i8, n_i16, n_0, n_31, n_add, n_sub, n_mul, n_neg, n_div, n_rem, n_le_t, n_le_f, n_lt_t, n_lt_f, n_eq_t, n_eq_f, n_cl, n_gd, n_gdt, n_nz, Int.reduceToNat, Int.reduceAdd, Int.reduceSub, Int.reduceMul, Int.reduceNeg, Int.reduceLT, Int.reduceLE, Int.reduceEq, Int.reduceDiv, Int.reduceMod, Nat.reduceAdd, Nat.reduceMul, ↓reduceIte, u_eq, u_no, u_nk, u_ek, u_2, u_3, j_1, j_3, j_eq, j_no, j_nk, ltd, bnd]
theorem m_asignB {k p : Int} {s : ST} (h : RB k p s) (o : Int32) : f_X10_asksSign o s = some s := by
  unfold f_X10_asksSign
  rw [if_neg h.ne]
