/-! L3: men on the tape, boards reached, images taken, of the reference -/
def tpM (T : Int → Int) (fr m x y : Int) : Bool := decide (T (fr + 2 * m) = x ∧ T (fr + 2 * m + 1) = y)
def menB (B : Brd) (T : Int → Int) (fr m : Int) : Bool := if T (fr + 2 * m) = 255 ∧ T (fr + 2 * m + 1) = 255 then true else decide (T (fr + 2 * m) < bW B) && (decide (T (fr + 2 * m + 1) < bH B) && !(upto m.toNat 0).any (fun k => tpM T fr k (T (fr + 2 * m)) (T (fr + 2 * m + 1))))
def areM (B : Brd) (T : Int → Int) (fr : Int) : Bool := (mens B).all (menB B T fr)
def TC (T : Int → Int) (n : Int) (s : ST) : Prop := ∀ j : Int, 0 ≤ j → j < n → s.1 66 j.toNat = Int32.ofInt (T j) ∧ 0 ≤ T j ∧ T j ≤ 255
theorem m_areMen_L79 {T : Int → Int} {n : Int} {s : ST} (hT : TC T n s) (hn : n ≤ 1600) {fr m x y : Int} (f0 : 0 ≤ fr) (hm : fr + 2 * m + 1 < n) (x0 : 0 ≤ x) (x1 : x ≤ 255) (y0 : 0 ≤ y) (y1 : y ≤ 255) (K : Int32 → Int32 → ST → Option (Int32 × ST)) : ∀ (c F : Nat) (i : Int), 0 ≤ i → (c : Int) = m - i → c < F → f_X10_areMen_L79 K F (Int32.ofInt fr) (Int32.ofInt m) (Int32.ofInt x) (Int32.ofInt y) (Int32.ofInt i) s = if (upto c i).any (fun k => tpM T fr k x y) = true then some (Int32.ofInt 0, s) else K (Int32.ofInt fr) (Int32.ofInt (m + 1)) s := by
  intro c
  induction c with
  | zero =>
    intro F i h0 hc hF
    obtain ⟨F, rfl⟩ : ∃ F', F = F' + 1 := ⟨F - 1, by omega⟩
    rw [if_neg (by simp [upto])]
    simp (disch := omega) only [f_X10_areMen_L79, n_i8, n_i16, n_0, n_31, n_add, n_sub, n_mul, n_neg, n_div, n_rem, n_le_t, n_le_f, n_lt_t, n_lt_f, n_eq_t, n_eq_f, n_cl, n_gd, n_gdt, n_nz, Int.reduceToNat, Int.reduceAdd, Int.reduceSub, Int.reduceMul, Int.reduceNeg, Int.reduceLT, Int.reduceLE, Int.reduceEq, Int.reduceDiv, Int.reduceMod, Nat.reduceAdd, Nat.reduceMul, ↓reduceIte]
  | succ c ih =>
    intro F i h0 hc hF
    obtain ⟨F, rfl⟩ : ∃ F', F = F' + 1 := ⟨F - 1, by omega⟩
    have t1 := hT (fr + 2 * i) (by omega) (by omega)
    have t2 := hT (fr + 2 * i + 1) (by omega) (by omega)
    have ih := ih F (i + 1) (by omega) (by omega) (by omega)
    have hany : (upto (c + 1) i).any (fun k => tpM T fr k x y) = (tpM T fr i x y || (upto c (i + 1)).any (fun k => tpM T fr k x y)) := rfl
    rw [hany]
    by_cases e1 : T (fr + 2 * i) = x
    · by_cases e2 : T (fr + 2 * i + 1) = y
      · have e : tpM T fr i x y = true := decide_eq_true ⟨e1, e2⟩
        rw [e, Bool.true_or, if_pos rfl]
        simp (disch := omega) only [f_X10_areMen_L79, t1.1, t2.1, n_i8, n_i16, n_0, n_31, n_add, n_sub, n_mul, n_neg, n_div, n_rem, n_le_t, n_le_f, n_lt_t, n_lt_f, n_eq_t, n_eq_f, n_cl, n_gd, n_gdt, n_nz, Int.reduceToNat, Int.reduceAdd, Int.reduceSub, Int.reduceMul, Int.reduceNeg, Int.reduceLT, Int.reduceLE, Int.reduceEq, Int.reduceDiv, Int.reduceMod, Nat.reduceAdd, Nat.reduceMul, ↓reduceIte, u_eq, u_no, u_nk, u_ek, u_2, u_3, j_1, j_3, j_eq, j_no, j_nk, ltd, bnd]
      · have e : tpM T fr i x y = false := decide_eq_false (fun c => e2 c.2)
        rw [e, Bool.false_or, ← ih]
        rw [f_X10_areMen_L79]
        simp (disch := omega) only [t1.1, t2.1, n_i8, n_i16, n_0, n_31, n_add, n_sub, n_mul, n_neg, n_div, n_rem, n_le_t, n_le_f, n_lt_t, n_lt_f, n_eq_t, n_eq_f, n_cl, n_gd, n_gdt, n_nz, Int.reduceToNat, Int.reduceAdd, Int.reduceSub, Int.reduceMul, Int.reduceNeg, Int.reduceLT, Int.reduceLE, Int.reduceEq, Int.reduceDiv, Int.reduceMod, Nat.reduceAdd, Nat.reduceMul, ↓reduceIte, u_eq, u_no, u_nk, u_ek, u_2, u_3, j_1, j_3, j_eq, j_no, j_nk, ltd, bnd]
    · have e : tpM T fr i x y = false := decide_eq_false (fun c => e1 c.1)
      rw [e, Bool.false_or, ← ih]
      rw [f_X10_areMen_L79]
      simp (disch := omega) only [t1.1, t2.1, n_i8, n_i16, n_0, n_31, n_add, n_sub, n_mul, n_neg, n_div, n_rem, n_le_t, n_le_f, n_lt_t, n_lt_f, n_eq_t, n_eq_f, n_cl, n_gd, n_gdt, n_nz, Int.reduceToNat, Int.reduceAdd, Int.reduceSub, Int.reduceMul, Int.reduceNeg, Int.reduceLT, Int.reduceLE, Int.reduceEq, Int.reduceDiv, Int.reduceMod, Nat.reduceAdd, Nat.reduceMul, ↓reduceIte, u_eq, u_no, u_nk, u_ek, u_2, u_3, j_1, j_3, j_eq, j_no, j_nk, ltd, bnd]
theorem m_areMen_L {B : Brd} {G : Gam} {T : Int → Int} {n : Int} {s : ST} (h : MA B G s) (hT : TC T n s) (hn : n ≤ 1600) {fr : Int} (f0 : 0 ≤ fr) (hm : fr + 2 * bM B ≤ n) : ∀ (c F : Nat) (i : Int), 0 ≤ i → (c : Int) = bM B - i → c < F → f_X10_areMen_L2 F (Int32.ofInt fr) (Int32.ofInt i) s = some (bI ((upto c i).all (menB B T fr)), s) := by
  have hM : bM B ≤ 8 := h.1.1.1.2.2.2.2.2.2.2.1; have hM0 : 0 ≤ bM B := h.1.1.1.2.2.2.2.2.2.1
  have hW : bW B ≤ 5 := h.1.1.1.2.1; have hH : bH B ≤ 5 := h.1.1.1.2.2.2.1; have hW0 : 0 ≤ bW B := h.1.1.1.1; have hH0 : 0 ≤ bH B := h.1.1.1.2.2.1; have hWH : bW B * bH B ≤ 25 := (Int.mul_le_mul hW hH hH0 (by omega)); have hWH0 : 0 ≤ bW B * bH B := Int.mul_nonneg hW0 hH0
  have hmm := m_manMany h
  have c4 : s.1 103 4 = Int32.ofInt (bW B) := h.2.2.1.1.2.2.2.1
  have c5 : s.1 103 5 = Int32.ofInt (bH B) := h.2.2.1.1.2.2.2.2.1
  intro c
  induction c with
  | zero =>
    intro F i h0 hc hF
    obtain ⟨F, rfl⟩ : ∃ F', F = F' + 1 := ⟨F - 1, by omega⟩
    simp (disch := omega) only [f_X10_areMen_L2, hmm, upto, List.all_nil, bI_t, n_i8, n_i16, n_0, n_31, n_add, n_sub, n_mul, n_neg, n_div, n_rem, n_le_t, n_le_f, n_lt_t, n_lt_f, n_eq_t, n_eq_f, n_cl, n_gd, n_gdt, n_nz, Int.reduceToNat, Int.reduceAdd, Int.reduceSub, Int.reduceMul, Int.reduceNeg, Int.reduceLT, Int.reduceLE, Int.reduceEq, Int.reduceDiv, Int.reduceMod, Nat.reduceAdd, Nat.reduceMul, ↓reduceIte, u_eq, u_no, u_nk, u_ek, u_2, u_3, j_1, j_3, j_eq, j_no, j_nk, ltd, bnd]
  | succ c ih =>
    intro F i h0 hc hF
    obtain ⟨F, rfl⟩ : ∃ F', F = F' + 1 := ⟨F - 1, by omega⟩
    have t1 := hT (fr + 2 * i) (by omega) (by omega)
    have t2 := hT (fr + 2 * i + 1) (by omega) (by omega)
    have ih := ih F (i + 1) (by omega) (by omega) (by omega)
    have h79 := m_areMen_L79 hT hn f0 (m := i) (x := T (fr + 2 * i)) (y := T (fr + 2 * i + 1)) (by omega) t1.2.1 t1.2.2 t2.2.1 t2.2.2 (f_X10_areMen_L2 F) i.toNat fuel 0 (by omega) (by omega) (by unfold fuel; omega)
    simp only [upto, List.all_cons]
    have hme : menB B T fr i = if T (fr + 2 * i) = 255 ∧ T (fr + 2 * i + 1) = 255 then true else decide (T (fr + 2 * i) < bW B) && (decide (T (fr + 2 * i + 1) < bH B) && !(upto i.toNat 0).any (fun k => tpM T fr k (T (fr + 2 * i)) (T (fr + 2 * i + 1)))) := rfl
    generalize (upto i.toNat 0).any (fun k => tpM T fr k (T (fr + 2 * i)) (T (fr + 2 * i + 1))) = an at *
    generalize T (fr + 2 * i) = x at *
    generalize T (fr + 2 * i + 1) = y at *
    have hj : f_X10_areMen_j53 (f_X10_areMen_L2 F) (Int32.ofInt fr) (Int32.ofInt i) (Int32.ofInt x) (Int32.ofInt y) s = some (bI ((decide (x < bW B) && (decide (y < bH B) && !an)) && (upto c (i + 1)).all (menB B T fr)), s) := by
      by_cases e1 : x < bW B
      · by_cases e2 : y < bH B
        · rw [decide_eq_true e1, decide_eq_true e2, Bool.true_and, Bool.true_and]
          cases an with
          | true =>
            rw [if_pos rfl] at h79
            simp (disch := omega) only [f_X10_areMen_j53, c4, c5, h79, bI_f, Bool.not_true, Bool.false_and, n_i8, n_i16, n_0, n_31, n_add, n_sub, n_mul, n_neg, n_div, n_rem, n_le_t, n_le_f, n_lt_t, n_lt_f, n_eq_t, n_eq_f, n_cl, n_gd, n_gdt, n_nz, Int.reduceToNat, Int.reduceAdd, Int.reduceSub, Int.reduceMul, Int.reduceNeg, Int.reduceLT, Int.reduceLE, Int.reduceEq, Int.reduceDiv, Int.reduceMod, Nat.reduceAdd, Nat.reduceMul, ↓reduceIte, u_eq, u_no, u_nk, u_ek, u_2, u_3, j_1, j_3, j_eq, j_no, j_nk, ltd, bnd]
          | false =>
            rw [if_neg (by decide)] at h79
            simp (disch := omega) only [f_X10_areMen_j53, c4, c5, h79, ih, Bool.not_false, Bool.true_and, n_i8, n_i16, n_0, n_31, n_add, n_sub, n_mul, n_neg, n_div, n_rem, n_le_t, n_le_f, n_lt_t, n_lt_f, n_eq_t, n_eq_f, n_cl, n_gd, n_gdt, n_nz, Int.reduceToNat, Int.reduceAdd, Int.reduceSub, Int.reduceMul, Int.reduceNeg, Int.reduceLT, Int.reduceLE, Int.reduceEq, Int.reduceDiv, Int.reduceMod, Nat.reduceAdd, Nat.reduceMul, ↓reduceIte, u_eq, u_no, u_nk, u_ek, u_2, u_3, j_1, j_3, j_eq, j_no, j_nk, ltd, bnd]
        · rw [decide_eq_true e1, decide_eq_false e2, Bool.true_and, Bool.false_and, Bool.false_and]
          simp (disch := omega) only [f_X10_areMen_j53, c4, c5, bI_f, n_i8, n_i16, n_0, n_31, n_add, n_sub, n_mul, n_neg, n_div, n_rem, n_le_t, n_le_f, n_lt_t, n_lt_f, n_eq_t, n_eq_f, n_cl, n_gd, n_gdt, n_nz, Int.reduceToNat, Int.reduceAdd, Int.reduceSub, Int.reduceMul, Int.reduceNeg, Int.reduceLT, Int.reduceLE, Int.reduceEq, Int.reduceDiv, Int.reduceMod, Nat.reduceAdd, Nat.reduceMul, ↓reduceIte, u_eq, u_no, u_nk, u_ek, u_2, u_3, j_1, j_3, j_eq, j_no, j_nk, ltd, bnd]
      · rw [decide_eq_false e1, Bool.false_and, Bool.false_and]
        simp (disch := omega) only [f_X10_areMen_j53, c4, c5, bI_f, n_i8, n_i16, n_0, n_31, n_add, n_sub, n_mul, n_neg, n_div, n_rem, n_le_t, n_le_f, n_lt_t, n_lt_f, n_eq_t, n_eq_f, n_cl, n_gd, n_gdt, n_nz, Int.reduceToNat, Int.reduceAdd, Int.reduceSub, Int.reduceMul, Int.reduceNeg, Int.reduceLT, Int.reduceLE, Int.reduceEq, Int.reduceDiv, Int.reduceMod, Nat.reduceAdd, Nat.reduceMul, ↓reduceIte, u_eq, u_no, u_nk, u_ek, u_2, u_3, j_1, j_3, j_eq, j_no, j_nk, ltd, bnd]
    by_cases e1 : x = 255
    · by_cases e2 : y = 255
      · rw [if_pos ⟨e1, e2⟩] at hme
        rw [hme, Bool.true_and, ← ih]
        rw [f_X10_areMen_L2]
        simp (disch := omega) only [hmm, t1.1, t2.1, n_i8, n_i16, n_0, n_31, n_add, n_sub, n_mul, n_neg, n_div, n_rem, n_le_t, n_le_f, n_lt_t, n_lt_f, n_eq_t, n_eq_f, n_cl, n_gd, n_gdt, n_nz, Int.reduceToNat, Int.reduceAdd, Int.reduceSub, Int.reduceMul, Int.reduceNeg, Int.reduceLT, Int.reduceLE, Int.reduceEq, Int.reduceDiv, Int.reduceMod, Nat.reduceAdd, Nat.reduceMul, ↓reduceIte, u_eq, u_no, u_nk, u_ek, u_2, u_3, j_1, j_3, j_eq, j_no, j_nk, ltd, bnd]
      · rw [if_neg (fun c => e2 c.2)] at hme
        rw [hme, ← hj]
        rw [f_X10_areMen_L2]
        simp (disch := omega) only [hmm, t1.1, t2.1, n_i8, n_i16, n_0, n_31, n_add, n_sub, n_mul, n_neg, n_div, n_rem, n_le_t, n_le_f, n_lt_t, n_lt_f, n_eq_t, n_eq_f, n_cl, n_gd, n_gdt, n_nz, Int.reduceToNat, Int.reduceAdd, Int.reduceSub, Int.reduceMul, Int.reduceNeg, Int.reduceLT, Int.reduceLE, Int.reduceEq, Int.reduceDiv, Int.reduceMod, Nat.reduceAdd, Nat.reduceMul, ↓reduceIte, u_eq, u_no, u_nk, u_ek, u_2, u_3, j_1, j_3, j_eq, j_no, j_nk, ltd, bnd]
    · rw [if_neg (fun c => e1 c.1)] at hme
      rw [hme, ← hj]
      rw [f_X10_areMen_L2]
      simp (disch := omega) only [hmm, t1.1, t2.1, n_i8, n_i16, n_0, n_31, n_add, n_sub, n_mul, n_neg, n_div, n_rem, n_le_t, n_le_f, n_lt_t, n_lt_f, n_eq_t, n_eq_f, n_cl, n_gd, n_gdt, n_nz, Int.reduceToNat, Int.reduceAdd, Int.reduceSub, Int.reduceMul, Int.reduceNeg, Int.reduceLT, Int.reduceLE, Int.reduceEq, Int.reduceDiv, Int.reduceMod, Nat.reduceAdd, Nat.reduceMul, ↓reduceIte, u_eq, u_no, u_nk, u_ek, u_2, u_3, j_1, j_3, j_eq, j_no, j_nk, ltd, bnd]
theorem m_areMen {B : Brd} {G : Gam} {T : Int → Int} {n : Int} {s : ST} (h : MA B G s) (hT : TC T n s) (hn : n ≤ 1600) {fr : Int} (f0 : 0 ≤ fr) (hm : fr + 2 * bM B ≤ n) : f_X10_areMen (Int32.ofInt fr) s = some (bI (areM B T fr), s) := by
  have hM : bM B ≤ 8 := h.1.1.1.2.2.2.2.2.2.2.1; have hM0 : 0 ≤ bM B := h.1.1.1.2.2.2.2.2.2.1
  exact m_areMen_L h hT hn f0 hm (bM B).toNat fuel 0 (by omega) (by omega) (by unfold fuel; omega)
theorem areM_at {B : Brd} {T : Int → Int} {fr : Int} (h : areM B T fr = true) (hM0 : 0 ≤ bM B) {m : Int} (m0 : 0 ≤ m) (m1 : m < bM B) : (T (fr + 2 * m) = 255 ∧ T (fr + 2 * m + 1) = 255) ∨ (T (fr + 2 * m) < bW B ∧ T (fr + 2 * m + 1) < bH B ∧ ∀ k : Int, 0 ≤ k → k < m → ¬ (T (fr + 2 * k) = T (fr + 2 * m) ∧ T (fr + 2 * k + 1) = T (fr + 2 * m + 1))) := by
  unfold areM at h
  rw [List.all_eq_true] at h
  have := h m ((mem_mens hM0).mpr ⟨m0, m1⟩)
  unfold menB at this
  split at this
  · rename_i e; exact Or.inl e
  · right
    rw [Bool.and_eq_true, Bool.and_eq_true] at this
    obtain ⟨a, b, c⟩ := this
    refine ⟨of_decide_eq_true a, of_decide_eq_true b, fun k k0 k1 e => ?_⟩
    have : (upto m.toNat 0).any (fun k => tpM T fr k (T (fr + 2 * m)) (T (fr + 2 * m + 1))) = true := by
      rw [List.any_eq_true]
      exact ⟨k, mem_upto.mpr (by omega), decide_eq_true e⟩
    rw [this] at c
    cases c
def unb (v : Int) : Int := if v = 255 then -1 else v
theorem m_reach_L {T : Int → Int} {n : Int} {w : Int32} (n0 : 0 ≤ n) (n1 : n ≤ 16) (K : Int32 → ST → Option (Int32 × ST)) : ∀ (c F : Nat) (i : Int) (s : ST), TC T n s → 0 ≤ i → (c : Int) = n - i → c < F → ∃ s', (∀ o k : Nat, ¬ o = 121 → s'.1 o k = s.1 o k) ∧ s'.2 = s.2 ∧ (∀ j : Int, i ≤ j → j < n → s'.1 121 j.toNat = Int32.ofInt (unb (T j))) ∧ (∀ j : Int, 0 ≤ j → j < i → s'.1 121 j.toNat = s.1 121 j.toNat) ∧ f_X10_reached_L55 K F w (Int32.ofInt n) (Int32.ofInt i) s = K w s' := by
  intro c
  induction c with
  | zero =>
    intro F i s hT h0 hn hF
    obtain ⟨F, rfl⟩ : ∃ F', F = F' + 1 := ⟨F - 1, by omega⟩
    refine ⟨s, fun _ _ _ => rfl, rfl, fun j j1 j2 => by omega, fun _ _ _ => rfl, ?_⟩
    simp (disch := omega) only [f_X10_reached_L55, n_i8, n_i16, n_0, n_31, n_add, n_sub, n_mul, n_neg, n_div, n_rem, n_le_t, n_le_f, n_lt_t, n_lt_f, n_eq_t, n_eq_f, n_cl, n_gd, n_gdt, n_nz, Int.reduceToNat, Int.reduceAdd, Int.reduceSub, Int.reduceMul, Int.reduceNeg, Int.reduceLT, Int.reduceLE, Int.reduceEq, Int.reduceDiv, Int.reduceMod, Nat.reduceAdd, Nat.reduceMul, ↓reduceIte]
  | succ c ih =>
    intro F i s hT h0 hn hF
    obtain ⟨F, rfl⟩ : ∃ F', F = F' + 1 := ⟨F - 1, by omega⟩
    have ht := hT i h0 (by omega)
    obtain ⟨s', q1, q2, q3, q4, q5⟩ := ih F (i + 1) (uI s 121 i.toNat (Int32.ofInt (unb (T i)))) (fun j j1 j2 => by rw [u_no (by omega)]; exact hT j j1 j2) (by omega) (by omega) (by omega)
    refine ⟨s', fun o k ho => (q1 o k ho).trans (u_no ho), q2, fun j j1 j2 => ?_, fun j j1 j2 => ?_, ?_⟩
    · by_cases e : j = i
      · subst e; rw [q4 j h0 (by omega), u_eq]
      · exact q3 j (by omega) j2
    · rw [q4 j j1 (by omega), u_nk (by omega)]
    · rw [← q5]
      unfold unb
      by_cases e : T i = 255
      · rw [if_pos e]
        simp (disch := omega) only [f_X10_reached_L55, f_X10_reached_j87, ht.1, n_i8, n_i16, n_0, n_31, n_add, n_sub, n_mul, n_neg, n_div, n_rem, n_le_t, n_le_f, n_lt_t, n_lt_f, n_eq_t, n_eq_f, n_cl, n_gd, n_gdt, n_nz, Int.reduceToNat, Int.reduceAdd, Int.reduceSub, Int.reduceMul, Int.reduceNeg, Int.reduceLT, Int.reduceLE, Int.reduceEq, Int.reduceDiv, Int.reduceMod, Nat.reduceAdd, Nat.reduceMul, ↓reduceIte, u_eq, u_no, u_nk, u_ek, u_2, u_3, j_1, j_3, j_eq, j_no, j_nk, ltd, bnd]
      · rw [if_neg e]
        simp (disch := omega) only [f_X10_reached_L55, f_X10_reached_j87, ht.1, n_i8, n_i16, n_0, n_31, n_add, n_sub, n_mul, n_neg, n_div, n_rem, n_le_t, n_le_f, n_lt_t, n_lt_f, n_eq_t, n_eq_f, n_cl, n_gd, n_gdt, n_nz, Int.reduceToNat, Int.reduceAdd, Int.reduceSub, Int.reduceMul, Int.reduceNeg, Int.reduceLT, Int.reduceLE, Int.reduceEq, Int.reduceDiv, Int.reduceMod, Nat.reduceAdd, Nat.reduceMul, ↓reduceIte, u_eq, u_no, u_nk, u_ek, u_2, u_3, j_1, j_3, j_eq, j_no, j_nk, ltd, bnd]
def axT (T : Int → Int) (fr m : Int) : Int := unb (T (fr + 2 * m))
def ayT (T : Int → Int) (fr m : Int) : Int := unb (T (fr + 2 * m + 1))
def rchOK (B : Brd) (brd : Bool) (T : Int → Int) (n z : Int) : Prop := brd = true ∧ (0 ≤ z ∧ z ≤ 3) ∧ n = 2 * bM B ∧ areM B T 0 = true
theorem m_reached {B : Brd} {G : Gam} {brd : Bool} {T : Int → Int} {n : Int} {s : ST} (hR : RS B G brd s) (hT : TP T n s) {z : Int} (z1 : -2147483648 ≤ z) (z2 : z ≤ 2147483647) : (rchOK B brd T n z → ∃ s', f_X10_reached (Int32.ofInt z) s = some (Int32.ofInt (wys B (axT T 0) (ayT T 0) z.toNat G), s') ∧ QF (uI s 65 1 (Int32.ofInt 0)) s') ∧ (¬ rchOK B brd T n z → f_X10_reached (Int32.ofInt z) s = some (Int32.ofInt (-1), rfS (uI s 65 1 (Int32.ofInt 0)) 1)) := by
  obtain ⟨h1, h2, h3⟩ := hT
  have h := hR.1.1
  have hM : bM B ≤ 8 := h.1.1.1.2.2.2.2.2.2.2.1; have hM0 : 0 ≤ bM B := h.1.1.1.2.2.2.2.2.2.1
  have hW : bW B ≤ 5 := h.1.1.1.2.1; have hH : bH B ≤ 5 := h.1.1.1.2.2.2.1; have hW0 : 0 ≤ bW B := h.1.1.1.1; have hH0 : 0 ≤ bH B := h.1.1.1.2.2.1; have hWH : bW B * bH B ≤ 25 := (Int.mul_le_mul hW hH hH0 (by omega)); have hWH0 : 0 ≤ bW B * bH B := Int.mul_nonneg hW0 hH0
  have hA1 : MA B G (uI s 65 1 (Int32.ofInt 0)) := MA_o h (fun o k ho => u_no ho)
  have hT1 : TC T n (uI s 65 1 (Int32.ofInt 0)) := fun j j1 j2 => by rw [u_no (by omega)]; exact h3 j j1 j2
  have hrf : f_X10_refuses (Int32.ofInt 1) (uI s 65 1 (Int32.ofInt 0)) = some (Int32.ofInt (-1), rfS (uI s 65 1 (Int32.ofInt 0)) 1) := m_refuses (j := 1) (by omega) (by omega)
  have hb : (uI s 65 1 (Int32.ofInt 0)).1 65 58 = bI brd := by rw [u_nk (by omega)]; exact hR.2.1
  have hi := m_isIn (s := uI s 65 1 (Int32.ofInt 0)) (v := z) (a := 0) (b := 3) (by omega) (by omega) (by omega) (by omega) (by omega) (by omega)
  have hmm := m_manMany hA1
  constructor
  · intro ⟨c1, c2, c3, c4⟩
    subst c1
    rw [decide_eq_true c2] at hi
    have har := m_areMen hA1 hT1 (by omega) (fr := 0) (by omega) (by omega)
    rw [c4] at har
    obtain ⟨s1, q1, q2, q3, q4, q5⟩ := m_reach_L (w := Int32.ofInt z) h2.1 (by omega) f_X10_reached_j94 n.toNat fuel 0 (uI s 65 1 (Int32.ofInt 0)) hT1 (by omega) (by omega) (by unfold fuel; omega)
    have hA2 : MA B G s1 := MA_fr hA1 (fun o k hk => q1 o k (by omega))
    have hg : MGo B (axT T 0) (ayT T 0) s1 := by
      intro m m0 m1
      refine ⟨(q3 (2 * m) (by omega) (by omega)).trans ?_, (q3 (2 * m + 1) (by omega) (by omega)).trans ?_⟩
      · unfold axT; rw [Int.zero_add]
      · unfold ayT; rw [Int.zero_add]
    have ha : Ax B (axT T 0) (ayT T 0) := by
      intro m m0 m1
      have t1 := hT1 (0 + 2 * m) (by omega) (by omega)
      have t2 := hT1 (0 + 2 * m + 1) (by omega) (by omega)
      unfold axT ayT unb
      rcases areM_at c4 hM0 m0 m1 with ⟨a, b⟩ | ⟨a, b, -⟩
      · rw [if_pos a, if_pos b]; omega
      · rw [if_neg (by omega), if_neg (by omega)]; omega
    have hq : QF (uI s 65 1 (Int32.ofInt 0)) s1 := ⟨fun o k q => q1 o k (by unfold QP at q; omega), fun o k _ => by rw [q2], by rw [q2]⟩
    have hz : z = 0 ∨ z = 1 ∨ z = 2 ∨ z = 3 := by omega
    rcases hz with rfl | rfl | rfl | rfl
    · obtain ⟨s2, r1, r2⟩ := m_ways0S ha hA2 hg
      refine ⟨s2, ?_, hq.tr r2.qf⟩
      simp (disch := omega) only [f_X10_reached, f_X10_reached_j94, h1, hb, hi, hmm, har, q5, r1, bI_t, n_i8, n_i16, n_0, n_31, n_add, n_sub, n_mul, n_neg, n_div, n_rem, n_le_t, n_le_f, n_lt_t, n_lt_f, n_eq_t, n_eq_f, n_cl, n_gd, n_gdt, n_nz, Int.reduceToNat, Int.reduceAdd, Int.reduceSub, Int.reduceMul, Int.reduceNeg, Int.reduceLT, Int.reduceLE, Int.reduceEq, Int.reduceDiv, Int.reduceMod, Nat.reduceAdd, Nat.reduceMul, ↓reduceIte, l_0, l_1, l_00, l_i, l_j, l_add, l_sub, l_mul, l_gt, l_ceq, l_clt, l_nz, ltd, bnd]
    · obtain ⟨s2, r1, r2⟩ := m_ways1S ha hA2 hg
      refine ⟨s2, ?_, hq.tr r2.qf⟩
      simp (disch := omega) only [f_X10_reached, f_X10_reached_j94, h1, hb, hi, hmm, har, q5, r1, bI_t, n_i8, n_i16, n_0, n_31, n_add, n_sub, n_mul, n_neg, n_div, n_rem, n_le_t, n_le_f, n_lt_t, n_lt_f, n_eq_t, n_eq_f, n_cl, n_gd, n_gdt, n_nz, Int.reduceToNat, Int.reduceAdd, Int.reduceSub, Int.reduceMul, Int.reduceNeg, Int.reduceLT, Int.reduceLE, Int.reduceEq, Int.reduceDiv, Int.reduceMod, Nat.reduceAdd, Nat.reduceMul, ↓reduceIte, l_0, l_1, l_00, l_i, l_j, l_add, l_sub, l_mul, l_gt, l_ceq, l_clt, l_nz, ltd, bnd]
    · obtain ⟨s2, r1, r2⟩ := m_ways2S ha hA2 hg
      refine ⟨s2, ?_, hq.tr r2.qf⟩
      simp (disch := omega) only [f_X10_reached, f_X10_reached_j94, h1, hb, hi, hmm, har, q5, r1, bI_t, n_i8, n_i16, n_0, n_31, n_add, n_sub, n_mul, n_neg, n_div, n_rem, n_le_t, n_le_f, n_lt_t, n_lt_f, n_eq_t, n_eq_f, n_cl, n_gd, n_gdt, n_nz, Int.reduceToNat, Int.reduceAdd, Int.reduceSub, Int.reduceMul, Int.reduceNeg, Int.reduceLT, Int.reduceLE, Int.reduceEq, Int.reduceDiv, Int.reduceMod, Nat.reduceAdd, Nat.reduceMul, ↓reduceIte, l_0, l_1, l_00, l_i, l_j, l_add, l_sub, l_mul, l_gt, l_ceq, l_clt, l_nz, ltd, bnd]
    · obtain ⟨s2, r1, r2⟩ := m_ways3S ha hA2 hg
      refine ⟨s2, ?_, hq.tr r2.qf⟩
      simp (disch := omega) only [f_X10_reached, f_X10_reached_j94, h1, hb, hi, hmm, har, q5, r1, bI_t, n_i8, n_i16, n_0, n_31, n_add, n_sub, n_mul, n_neg, n_div, n_rem, n_le_t, n_le_f, n_lt_t, n_lt_f, n_eq_t, n_eq_f, n_cl, n_gd, n_gdt, n_nz, Int.reduceToNat, Int.reduceAdd, Int.reduceSub, Int.reduceMul, Int.reduceNeg, Int.reduceLT, Int.reduceLE, Int.reduceEq, Int.reduceDiv, Int.reduceMod, Nat.reduceAdd, Nat.reduceMul, ↓reduceIte, l_0, l_1, l_00, l_i, l_j, l_add, l_sub, l_mul, l_gt, l_ceq, l_clt, l_nz, ltd, bnd]
  · intro c
    cases brd with
    | false => simp (disch := omega) only [f_X10_reached, f_X10_reached_j47, hb, hrf, bI_f, n_i8, n_i16, n_0, n_31, n_add, n_sub, n_mul, n_neg, n_div, n_rem, n_le_t, n_le_f, n_lt_t, n_lt_f, n_eq_t, n_eq_f, n_cl, n_gd, n_gdt, n_nz, Int.reduceToNat, Int.reduceAdd, Int.reduceSub, Int.reduceMul, Int.reduceNeg, Int.reduceLT, Int.reduceLE, Int.reduceEq, Int.reduceDiv, Int.reduceMod, Nat.reduceAdd, Nat.reduceMul, ↓reduceIte, l_0, l_1, l_00, l_i, l_j, l_add, l_sub, l_mul, l_gt, l_ceq, l_clt, l_nz, ltd, bnd]
    | true =>
      by_cases c2 : 0 ≤ z ∧ z ≤ 3
      · rw [decide_eq_true c2] at hi
        by_cases c3 : n = 2 * bM B
        · have har := m_areMen hA1 hT1 (by omega) (fr := 0) (by omega) (by omega)
          cases e : areM B T 0 with
          | true => exact absurd ⟨rfl, c2, c3, e⟩ c
          | false =>
            rw [e] at har
            simp (disch := omega) only [f_X10_reached, f_X10_reached_j47, h1, hb, hi, hmm, har, hrf, bI_t, bI_f, n_i8, n_i16, n_0, n_31, n_add, n_sub, n_mul, n_neg, n_div, n_rem, n_le_t, n_le_f, n_lt_t, n_lt_f, n_eq_t, n_eq_f, n_cl, n_gd, n_gdt, n_nz, Int.reduceToNat, Int.reduceAdd, Int.reduceSub, Int.reduceMul, Int.reduceNeg, Int.reduceLT, Int.reduceLE, Int.reduceEq, Int.reduceDiv, Int.reduceMod, Nat.reduceAdd, Nat.reduceMul, ↓reduceIte, l_0, l_1, l_00, l_i, l_j, l_add, l_sub, l_mul, l_gt, l_ceq, l_clt, l_nz, ltd, bnd]
        · simp (disch := omega) only [f_X10_reached, f_X10_reached_j47, h1, hb, hi, hmm, hrf, bI_t, n_i8, n_i16, n_0, n_31, n_add, n_sub, n_mul, n_neg, n_div, n_rem, n_le_t, n_le_f, n_lt_t, n_lt_f, n_eq_t, n_eq_f, n_cl, n_gd, n_gdt, n_nz, Int.reduceToNat, Int.reduceAdd, Int.reduceSub, Int.reduceMul, Int.reduceNeg, Int.reduceLT, Int.reduceLE, Int.reduceEq, Int.reduceDiv, Int.reduceMod, Nat.reduceAdd, Nat.reduceMul, ↓reduceIte, l_0, l_1, l_00, l_i, l_j, l_add, l_sub, l_mul, l_gt, l_ceq, l_clt, l_nz, ltd, bnd]
      · rw [decide_eq_false c2] at hi
        simp (disch := omega) only [f_X10_reached, f_X10_reached_j47, h1, hb, hi, hrf, bI_t, bI_f, n_i8, n_i16, n_0, n_31, n_add, n_sub, n_mul, n_neg, n_div, n_rem, n_le_t, n_le_f, n_lt_t, n_lt_f, n_eq_t, n_eq_f, n_cl, n_gd, n_gdt, n_nz, Int.reduceToNat, Int.reduceAdd, Int.reduceSub, Int.reduceMul, Int.reduceNeg, Int.reduceLT, Int.reduceLE, Int.reduceEq, Int.reduceDiv, Int.reduceMod, Nat.reduceAdd, Nat.reduceMul, ↓reduceIte, l_0, l_1, l_00, l_i, l_j, l_add, l_sub, l_mul, l_gt, l_ceq, l_clt, l_nz, ltd, bnd]
