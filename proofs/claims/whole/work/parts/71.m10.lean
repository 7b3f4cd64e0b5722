/-! L3: forced and the ways of the reference -/
theorem n_nb {α : Type} (c : Bool) (x : Option α) : gd (nb (bI c)) x = x := by cases c <;> rfl
theorem m_takesCrown {B : Brd} {G : Gam} {s : ST} (h : MA B G s) : f_X10_takesCrown s = some (bI (chk B G (1 - gs G)), s) := by
  have hsd := m_side h
  have hgs := h.2.1.1.2.2
  have hb := m_isCheck h (t := 1 - gs G) (by omega) (by omega)
  simp (disch := omega) only [f_X10_takesCrown, hsd, hb, n_nb, n_i8, n_i16, n_0, n_31, n_add, n_sub, n_mul, n_neg, n_div, n_rem, n_le_t, n_le_f, n_lt_t, n_lt_f, n_eq_t, n_eq_f, n_cl, n_gd, n_gdt, n_nz, Int.reduceToNat, Int.reduceAdd, Int.reduceSub, Int.reduceMul, Int.reduceNeg, Int.reduceLT, Int.reduceLE, Int.reduceEq, Int.reduceDiv, Int.reduceMod, Nat.reduceAdd, Nat.reduceMul, ↓reduceIte, u_eq, u_no, u_nk, u_ek, u_2, u_3, j_1, j_3, j_eq, j_no, j_nk, lt_def, Option.bind_some]
def lost (B : Brd) (G : Gam) : Bool := !ct B G && chk B G (1 - gs G)
theorem m_fn_L14 {B : Brd} {G : Gam} {m : Int} (h1 : 0 ≤ m) (h2 : m < bM B) (K : Int32 → Int32 → ST → Option (Int32 × ST)) : ∀ (n F : Nat) (i : Int) (any : Bool) (s : ST), MA B G s → 0 ≤ i → (n : Int) = bW B * bH B - i → n < F → ((upto n i).any (fun k => cond B G m k && !lost B (mvK B G m k)) = false → ∃ s', Sc 1 1 s s' ∧ f_X10_isForcedNow_L14 K F (bI any) (Int32.ofInt m) (Int32.ofInt i) s = K (bI (any || (upto n i).any (cond B G m))) (Int32.ofInt (m + 1)) s') ∧ ((upto n i).any (fun k => cond B G m k && !lost B (mvK B G m k)) = true → ∃ s', Sc 1 1 s s' ∧ f_X10_isForcedNow_L14 K F (bI any) (Int32.ofInt m) (Int32.ofInt i) s = some (Int32.ofInt 0, s')) := by
  intro n
  induction n with
  | zero =>
    intro F i any s h h0 hn hF
    obtain ⟨F, rfl⟩ : ∃ F', F = F' + 1 := ⟨F - 1, by omega⟩
    have hpl := m_places h
    have hW : bW B ≤ 5 := h.1.1.1.2.1; have hH : bH B ≤ 5 := h.1.1.1.2.2.2.1; have hW0 : 0 ≤ bW B := h.1.1.1.1; have hH0 : 0 ≤ bH B := h.1.1.1.2.2.1; have hWH : bW B * bH B ≤ 25 := (Int.mul_le_mul hW hH hH0 (by omega)); have hWH0 : 0 ≤ bW B * bH B := Int.mul_nonneg hW0 hH0
    simp only [upto, List.any_nil, Bool.or_false]
    refine ⟨fun _ => ⟨s, Sc.rf _ _ s, ?_⟩, fun q => by cases q⟩
    simp (disch := omega) only [f_X10_isForcedNow_L14, hpl, n_i8, n_i16, n_0, n_31, n_add, n_sub, n_mul, n_neg, n_div, n_rem, n_le_t, n_le_f, n_lt_t, n_lt_f, n_eq_t, n_eq_f, n_cl, n_gd, n_gdt, n_nz, Int.reduceToNat, Int.reduceAdd, Int.reduceSub, Int.reduceMul, Int.reduceNeg, Int.reduceLT, Int.reduceLE, Int.reduceEq, Int.reduceDiv, Int.reduceMod, Nat.reduceAdd, Nat.reduceMul, ↓reduceIte, u_eq, u_no, u_nk, u_ek, u_2, u_3, j_1, j_3, j_eq, j_no, j_nk, lt_def, Option.bind_some]
  | succ n ih =>
    intro F i any s h h0 hn hF
    obtain ⟨F, rfl⟩ : ∃ F', F = F' + 1 := ⟨F - 1, by omega⟩
    have hpl := m_places h
    have hs := m_sideOf h h1 h2
    have hsd := m_side h
    have hgs := h.2.1.1.2.2
    have hb := h.1.2.2.1 m h1 h2
    have hW : bW B ≤ 5 := h.1.1.1.2.1; have hH : bH B ≤ 5 := h.1.1.1.2.2.2.1; have hW0 : 0 ≤ bW B := h.1.1.1.1; have hH0 : 0 ≤ bH B := h.1.1.1.2.2.1; have hWH : bW B * bH B ≤ 25 := (Int.mul_le_mul hW hH hH0 (by omega)); have hWH0 : 0 ≤ bW B * bH B := Int.mul_nonneg hW0 hH0
    have hc : f_X10_canGo (Int32.ofInt m) (Int32.ofInt i) s = some (bI (goK B G m i), s) := m_canGo h h1 h2 h0 (show i < bW B * bH B by omega)
    simp only [upto, List.any_cons]
    by_cases e1 : sd B m = gs G
    · cases e2 : goK B G m i with
      | true =>
        have hv : cond B G m i = true := by unfold cond; rw [e2, decide_eq_true e1]; rfl
        rw [e2] at hc
        obtain ⟨s1, q1, q2, -, q3⟩ := m_try h (L := 1) (by omega) (by omega) h1 h2 h0 (by omega) e2
        obtain ⟨s3, q6, q7⟩ := q3 s1 1 0 (Sc.rf _ _ _) (by omega) 1 1 (by omega) (by omega) (by omega) (by omega)
        have k1 : f_X10_isCrownTaken s1 = some (bI (ct B (mvK B G m i)), s1) := m_isCrownTaken q2
        have k2 : f_X10_takesCrown s1 = some (bI (chk B (mvK B G m i) (1 - gs (mvK B G m i))), s1) := m_takesCrown q2
        obtain ⟨i1, i2⟩ := ih F (i + 1) true s3 (MA_Sc h q7) (by omega) (by omega) (by omega)
        rw [hv, Bool.true_and, Bool.true_or, Bool.or_true]
        cases e3 : lost B (mvK B G m i) with
        | true =>
          have e4 := e3
          unfold lost at e4
          have e5 := Bool.and_eq_true_iff.mp e4
          have e6 : ct B (mvK B G m i) = false := by simpa using e5.1
          rw [e6] at k1
          rw [e5.2] at k2
          have hun : f_X10_isForcedNow_L14 K (F + 1) (bI any) (Int32.ofInt m) (Int32.ofInt i) s = f_X10_isForcedNow_L14 K F (bI true) (Int32.ofInt m) (Int32.ofInt (i + 1)) s3 := by
            simp (disch := omega) only [f_X10_isForcedNow_L14, f_X10_isForcedNow_j76, f_X10_isForcedNow_j75, hpl, hs, hsd, e1, hc, q1, k1, k2, q6, bI_t, bI_f, n_i8, n_i16, n_0, n_31, n_add, n_sub, n_mul, n_neg, n_div, n_rem, n_le_t, n_le_f, n_lt_t, n_lt_f, n_eq_t, n_eq_f, n_cl, n_gd, n_gdt, n_nz, Int.reduceToNat, Int.reduceAdd, Int.reduceSub, Int.reduceMul, Int.reduceNeg, Int.reduceLT, Int.reduceLE, Int.reduceEq, Int.reduceDiv, Int.reduceMod, Nat.reduceAdd, Nat.reduceMul, ↓reduceIte, u_eq, u_no, u_nk, u_ek, u_2, u_3, j_1, j_3, j_eq, j_no, j_nk, lt_def, Option.bind_some]
          rw [hun]
          simp only [Bool.not_true, Bool.false_or]
          refine ⟨fun q => ?_, fun q => ?_⟩
          · obtain ⟨s4, q8, q9⟩ := i1 q
            exact ⟨s4, q7.tr q8, by rw [q9, Bool.true_or]⟩
          · obtain ⟨s4, q8, q9⟩ := i2 q
            exact ⟨s4, q7.tr q8, q9⟩
        | false =>
          simp only [Bool.not_false, Bool.true_or]
          refine ⟨(fun q => by cases q), fun _ => ⟨s3, q7, ?_⟩⟩
          cases e6 : ct B (mvK B G m i) with
          | true =>
            rw [e6] at k1
            simp (disch := omega) only [f_X10_isForcedNow_L14, f_X10_isForcedNow_j76, f_X10_isForcedNow_j75, hpl, hs, hsd, e1, hc, q1, k1, k2, q6, bI_t, bI_f, n_i8, n_i16, n_0, n_31, n_add, n_sub, n_mul, n_neg, n_div, n_rem, n_le_t, n_le_f, n_lt_t, n_lt_f, n_eq_t, n_eq_f, n_cl, n_gd, n_gdt, n_nz, Int.reduceToNat, Int.reduceAdd, Int.reduceSub, Int.reduceMul, Int.reduceNeg, Int.reduceLT, Int.reduceLE, Int.reduceEq, Int.reduceDiv, Int.reduceMod, Nat.reduceAdd, Nat.reduceMul, ↓reduceIte, u_eq, u_no, u_nk, u_ek, u_2, u_3, j_1, j_3, j_eq, j_no, j_nk, lt_def, Option.bind_some]
          | false =>
            have e7 : chk B (mvK B G m i) (1 - gs (mvK B G m i)) = false := by
              unfold lost at e3
              rw [e6] at e3
              simpa using e3
            rw [e6] at k1
            rw [e7] at k2
            simp (disch := omega) only [f_X10_isForcedNow_L14, f_X10_isForcedNow_j76, f_X10_isForcedNow_j75, hpl, hs, hsd, e1, hc, q1, k1, k2, q6, bI_t, bI_f, n_i8, n_i16, n_0, n_31, n_add, n_sub, n_mul, n_neg, n_div, n_rem, n_le_t, n_le_f, n_lt_t, n_lt_f, n_eq_t, n_eq_f, n_cl, n_gd, n_gdt, n_nz, Int.reduceToNat, Int.reduceAdd, Int.reduceSub, Int.reduceMul, Int.reduceNeg, Int.reduceLT, Int.reduceLE, Int.reduceEq, Int.reduceDiv, Int.reduceMod, Nat.reduceAdd, Nat.reduceMul, ↓reduceIte, u_eq, u_no, u_nk, u_ek, u_2, u_3, j_1, j_3, j_eq, j_no, j_nk, lt_def, Option.bind_some]
      | false =>
        have hv : cond B G m i = false := by unfold cond; rw [e2, decide_eq_true e1]; rfl
        rw [e2] at hc
        have ih := ih F (i + 1) any s h (by omega) (by omega) (by omega)
        have hun : f_X10_isForcedNow_L14 K (F + 1) (bI any) (Int32.ofInt m) (Int32.ofInt i) s = f_X10_isForcedNow_L14 K F (bI any) (Int32.ofInt m) (Int32.ofInt (i + 1)) s := by
          simp (disch := omega) only [f_X10_isForcedNow_L14, hpl, hs, hsd, e1, hc, bI_f, n_i8, n_i16, n_0, n_31, n_add, n_sub, n_mul, n_neg, n_div, n_rem, n_le_t, n_le_f, n_lt_t, n_lt_f, n_eq_t, n_eq_f, n_cl, n_gd, n_gdt, n_nz, Int.reduceToNat, Int.reduceAdd, Int.reduceSub, Int.reduceMul, Int.reduceNeg, Int.reduceLT, Int.reduceLE, Int.reduceEq, Int.reduceDiv, Int.reduceMod, Nat.reduceAdd, Nat.reduceMul, ↓reduceIte, u_eq, u_no, u_nk, u_ek, u_2, u_3, j_1, j_3, j_eq, j_no, j_nk, lt_def, Option.bind_some]
        rw [hun, hv, Bool.false_and, Bool.false_or, Bool.false_or]
        exact ih
    · have hv : cond B G m i = false := by unfold cond; rw [decide_eq_false e1]; rfl
      have ih := ih F (i + 1) any s h (by omega) (by omega) (by omega)
      have hun : f_X10_isForcedNow_L14 K (F + 1) (bI any) (Int32.ofInt m) (Int32.ofInt i) s = f_X10_isForcedNow_L14 K F (bI any) (Int32.ofInt m) (Int32.ofInt (i + 1)) s := by
        simp (disch := omega) only [f_X10_isForcedNow_L14, hpl, hs, hsd, e1, n_i8, n_i16, n_0, n_31, n_add, n_sub, n_mul, n_neg, n_div, n_rem, n_le_t, n_le_f, n_lt_t, n_lt_f, n_eq_t, n_eq_f, n_cl, n_gd, n_gdt, n_nz, Int.reduceToNat, Int.reduceAdd, Int.reduceSub, Int.reduceMul, Int.reduceNeg, Int.reduceLT, Int.reduceLE, Int.reduceEq, Int.reduceDiv, Int.reduceMod, Nat.reduceAdd, Nat.reduceMul, ↓reduceIte, u_eq, u_no, u_nk, u_ek, u_2, u_3, j_1, j_3, j_eq, j_no, j_nk, lt_def, Option.bind_some]
      rw [hun, hv, Bool.false_and, Bool.false_or, Bool.false_or]
      exact ih
def frcL (B : Brd) (G : Gam) (any : Bool) (l : List Int) : Bool := if l.any (fun m => (sqs B).any (fun k => cond B G m k && !lost B (mvK B G m k))) = true then false else any || l.any (fun m => (sqs B).any (cond B G m))
def frc (B : Brd) (G : Gam) : Bool := frcL B G false (mens B)
theorem m_fn_L4 {B : Brd} {G : Gam} : ∀ (n F : Nat) (i : Int) (any : Bool) (s : ST), MA B G s → 0 ≤ i → (n : Int) = bM B - i → n < F → ∃ s', Sc 1 1 s s' ∧ f_X10_isForcedNow_L4 F (bI any) (Int32.ofInt i) s = some (bI (frcL B G any (upto n i)), s') := by
  intro n
  induction n with
  | zero =>
    intro F i any s h h0 hn hF
    obtain ⟨F, rfl⟩ : ∃ F', F = F' + 1 := ⟨F - 1, by omega⟩
    have hmm := m_manMany h
    have hM : bM B ≤ 8 := h.1.1.1.2.2.2.2.2.2.2.1; have hM0 : 0 ≤ bM B := h.1.1.1.2.2.2.2.2.2.1
    refine ⟨s, Sc.rf _ _ s, ?_⟩
    unfold frcL
    simp (disch := omega) only [f_X10_isForcedNow_L4, hmm, n_nb, n_i8, n_i16, n_0, n_31, n_add, n_sub, n_mul, n_neg, n_div, n_rem, n_le_t, n_le_f, n_lt_t, n_lt_f, n_eq_t, n_eq_f, n_cl, n_gd, n_gdt, n_nz, Int.reduceToNat, Int.reduceAdd, Int.reduceSub, Int.reduceMul, Int.reduceNeg, Int.reduceLT, Int.reduceLE, Int.reduceEq, Int.reduceDiv, Int.reduceMod, Nat.reduceAdd, Nat.reduceMul, ↓reduceIte, u_eq, u_no, u_nk, u_ek, u_2, u_3, j_1, j_3, j_eq, j_no, j_nk, lt_def, Option.bind_some, upto, List.any_nil, Bool.or_false, Bool.false_eq_true]
  | succ n ih =>
    intro F i any s h h0 hn hF
    obtain ⟨F, rfl⟩ : ∃ F', F = F' + 1 := ⟨F - 1, by omega⟩
    have hmm := m_manMany h
    have hM : bM B ≤ 8 := h.1.1.1.2.2.2.2.2.2.2.1; have hM0 : 0 ≤ bM B := h.1.1.1.2.2.2.2.2.2.1
    have hW : bW B ≤ 5 := h.1.1.1.2.1; have hH : bH B ≤ 5 := h.1.1.1.2.2.2.1; have hW0 : 0 ≤ bW B := h.1.1.1.1; have hH0 : 0 ≤ bH B := h.1.1.1.2.2.1; have hWH : bW B * bH B ≤ 25 := (Int.mul_le_mul hW hH hH0 (by omega)); have hWH0 : 0 ≤ bW B * bH B := Int.mul_nonneg hW0 hH0
    obtain ⟨j1, j2⟩ := m_fn_L14 (G := G) h0 (show i < bM B by omega) (f_X10_isForcedNow_L4 F) (bW B * bH B).toNat fuel 0 any s h (by omega) (by omega) (by unfold fuel; omega)
    have hun : f_X10_isForcedNow_L4 (F + 1) (bI any) (Int32.ofInt i) s = f_X10_isForcedNow_L14 (f_X10_isForcedNow_L4 F) fuel (bI any) (Int32.ofInt i) (Int32.ofInt 0) s := by
      simp (disch := omega) only [f_X10_isForcedNow_L4, hmm, n_i8, n_i16, n_0, n_31, n_add, n_sub, n_mul, n_neg, n_div, n_rem, n_le_t, n_le_f, n_lt_t, n_lt_f, n_eq_t, n_eq_f, n_cl, n_gd, n_gdt, n_nz, Int.reduceToNat, Int.reduceAdd, Int.reduceSub, Int.reduceMul, Int.reduceNeg, Int.reduceLT, Int.reduceLE, Int.reduceEq, Int.reduceDiv, Int.reduceMod, Nat.reduceAdd, Nat.reduceMul, ↓reduceIte, u_eq, u_no, u_nk, u_ek, u_2, u_3, j_1, j_3, j_eq, j_no, j_nk, lt_def, Option.bind_some]
    rw [hun]
    cases e : (sqs B).any (fun k => cond B G i k && !lost B (mvK B G i k)) with
    | true =>
      obtain ⟨s', q1, q2⟩ := j2 e
      refine ⟨s', q1, ?_⟩
      have q2 : f_X10_isForcedNow_L14 (f_X10_isForcedNow_L4 F) fuel (bI any) (Int32.ofInt i) (Int32.ofInt 0) s = some (Int32.ofInt 0, s') := q2
      rw [q2]
      unfold frcL
      rw [upto, List.any_cons, e, Bool.true_or, if_pos rfl]
      rfl
    | false =>
      obtain ⟨s', q1, q2⟩ := j1 e
      have q2 : f_X10_isForcedNow_L14 (f_X10_isForcedNow_L4 F) fuel (bI any) (Int32.ofInt i) (Int32.ofInt 0) s = f_X10_isForcedNow_L4 F (bI (any || (sqs B).any (cond B G i))) (Int32.ofInt (i + 1)) s' := q2
      obtain ⟨s2, q3, q4⟩ := ih F (i + 1) (any || (sqs B).any (cond B G i)) s' (MA_Sc h q1) (by omega) (by omega) (by omega)
      refine ⟨s2, q1.tr q3, ?_⟩
      rw [q2, q4]
      unfold frcL
      simp only [upto, List.any_cons, e, Bool.false_or, Bool.or_assoc]
theorem m_isForcedNow {B : Brd} {G : Gam} {s : ST} (h : MA B G s) : ∃ s', Sc 1 1 s s' ∧ f_X10_isForcedNow s = some (bI (frc B G), s') := by
  have hM : bM B ≤ 8 := h.1.1.1.2.2.2.2.2.2.2.1; have hM0 : 0 ≤ bM B := h.1.1.1.2.2.2.2.2.2.1
  exact m_fn_L4 (bM B).toNat fuel 0 false s h (by omega) (by omega) (by unfold fuel; omega)
def crn (B : Brd) (G : Gam) : Bool := !ct B G && frc B G
theorem m_fo_L43 {B : Brd} {G : Gam} {m : Int} (h1 : 0 ≤ m) (h2 : m < bM B) (K : Int32 → Int32 → ST → Option (Int32 × ST)) : ∀ (n F : Nat) (i : Int) (is : Bool) (s : ST), MA B G s → 0 ≤ i → (n : Int) = bW B * bH B - i → n < F → ∃ s', Sc 0 1 s s' ∧ f_X10_forced_L43 K F (bI is) (Int32.ofInt m) (Int32.ofInt i) s = K (bI (is || (upto n i).any (fun k => cond B G m k && crn B (mvK B G m k)))) (Int32.ofInt (m + 1)) s' := by
  intro n
  induction n with
  | zero =>
    intro F i is s h h0 hn hF
    obtain ⟨F, rfl⟩ : ∃ F', F = F' + 1 := ⟨F - 1, by omega⟩
    have hpl := m_places h
    have hW : bW B ≤ 5 := h.1.1.1.2.1; have hH : bH B ≤ 5 := h.1.1.1.2.2.2.1; have hW0 : 0 ≤ bW B := h.1.1.1.1; have hH0 : 0 ≤ bH B := h.1.1.1.2.2.1; have hWH : bW B * bH B ≤ 25 := (Int.mul_le_mul hW hH hH0 (by omega)); have hWH0 : 0 ≤ bW B * bH B := Int.mul_nonneg hW0 hH0
    simp only [upto, List.any_nil, Bool.or_false]
    refine ⟨s, Sc.rf _ _ s, ?_⟩
    simp (disch := omega) only [f_X10_forced_L43, hpl, n_i8, n_i16, n_0, n_31, n_add, n_sub, n_mul, n_neg, n_div, n_rem, n_le_t, n_le_f, n_lt_t, n_lt_f, n_eq_t, n_eq_f, n_cl, n_gd, n_gdt, n_nz, Int.reduceToNat, Int.reduceAdd, Int.reduceSub, Int.reduceMul, Int.reduceNeg, Int.reduceLT, Int.reduceLE, Int.reduceEq, Int.reduceDiv, Int.reduceMod, Nat.reduceAdd, Nat.reduceMul, ↓reduceIte, u_eq, u_no, u_nk, u_ek, u_2, u_3, j_1, j_3, j_eq, j_no, j_nk, lt_def, Option.bind_some]
  | succ n ih =>
    intro F i is s h h0 hn hF
    obtain ⟨F, rfl⟩ : ∃ F', F = F' + 1 := ⟨F - 1, by omega⟩
    have hpl := m_places h
    have hs := m_sideOf h h1 h2
    have hsd := m_side h
    have hgs := h.2.1.1.2.2
    have hb := h.1.2.2.1 m h1 h2
    have hW : bW B ≤ 5 := h.1.1.1.2.1; have hH : bH B ≤ 5 := h.1.1.1.2.2.2.1; have hW0 : 0 ≤ bW B := h.1.1.1.1; have hH0 : 0 ≤ bH B := h.1.1.1.2.2.1; have hWH : bW B * bH B ≤ 25 := (Int.mul_le_mul hW hH hH0 (by omega)); have hWH0 : 0 ≤ bW B * bH B := Int.mul_nonneg hW0 hH0
    cases is with
    | true =>
      refine ⟨s, Sc.rf _ _ s, ?_⟩
      simp (disch := omega) only [f_X10_forced_L43, hpl, bI_t, Bool.true_or, n_i8, n_i16, n_0, n_31, n_add, n_sub, n_mul, n_neg, n_div, n_rem, n_le_t, n_le_f, n_lt_t, n_lt_f, n_eq_t, n_eq_f, n_cl, n_gd, n_gdt, n_nz, Int.reduceToNat, Int.reduceAdd, Int.reduceSub, Int.reduceMul, Int.reduceNeg, Int.reduceLT, Int.reduceLE, Int.reduceEq, Int.reduceDiv, Int.reduceMod, Nat.reduceAdd, Nat.reduceMul, ↓reduceIte, u_eq, u_no, u_nk, u_ek, u_2, u_3, j_1, j_3, j_eq, j_no, j_nk, lt_def, Option.bind_some]
    | false =>
      have hc : f_X10_canGo (Int32.ofInt m) (Int32.ofInt i) s = some (bI (goK B G m i), s) := m_canGo h h1 h2 h0 (show i < bW B * bH B by omega)
      simp only [upto, List.any_cons]
      by_cases e1 : sd B m = gs G
      · cases e2 : goK B G m i with
        | true =>
          have hv : cond B G m i = true := by unfold cond; rw [e2, decide_eq_true e1]; rfl
          rw [e2] at hc
          obtain ⟨s1, q1, q2, -, q3⟩ := m_try h (L := 0) (by omega) (by omega) h1 h2 h0 (by omega) e2
          have k1 : f_X10_isCrownTaken s1 = some (bI (ct B (mvK B G m i)), s1) := m_isCrownTaken q2
          obtain ⟨s2, k3, k2⟩ := m_isForcedNow q2
          have k2 : f_X10_isForcedNow s1 = some (bI (frc B (mvK B G m i)), s2) := k2
          rw [hv, Bool.true_and]
          cases e6 : ct B (mvK B G m i) with
          | true =>
            rw [e6] at k1
            obtain ⟨s3, q6, q7⟩ := q3 s1 1 1 (Sc.rf _ _ _) (by omega) 0 1 (by omega) (by omega) (by omega) (by omega)
            obtain ⟨s4, q8, q9⟩ := ih F (i + 1) false s3 (MA_Sc h q7) (by omega) (by omega) (by omega)
            have e7 : crn B (mvK B G m i) = false := by unfold crn; rw [e6]; rfl
            refine ⟨s4, q7.tr q8, ?_⟩
            rw [e7, Bool.false_or, ← q9]
            simp (disch := omega) only [f_X10_forced_L43, f_X10_forced_j106, f_X10_forced_j107, hpl, hs, hsd, e1, hc, q1, k1, q6, bI_t, bI_f, n_i8, n_i16, n_0, n_31, n_add, n_sub, n_mul, n_neg, n_div, n_rem, n_le_t, n_le_f, n_lt_t, n_lt_f, n_eq_t, n_eq_f, n_cl, n_gd, n_gdt, n_nz, Int.reduceToNat, Int.reduceAdd, Int.reduceSub, Int.reduceMul, Int.reduceNeg, Int.reduceLT, Int.reduceLE, Int.reduceEq, Int.reduceDiv, Int.reduceMod, Nat.reduceAdd, Nat.reduceMul, ↓reduceIte, u_eq, u_no, u_nk, u_ek, u_2, u_3, j_1, j_3, j_eq, j_no, j_nk, lt_def, Option.bind_some]
          | false =>
            rw [e6] at k1
            obtain ⟨s3, q6, q7⟩ := q3 s2 1 1 k3 (by omega) 0 1 (by omega) (by omega) (by omega) (by omega)
            have e7 : crn B (mvK B G m i) = frc B (mvK B G m i) := by unfold crn; rw [e6]; rfl
            rw [e7]
            cases e8 : frc B (mvK B G m i) with
            | true =>
              rw [e8] at k2
              obtain ⟨s4, q8, q9⟩ := ih F (i + 1) true s3 (MA_Sc h q7) (by omega) (by omega) (by omega)
              refine ⟨s4, q7.tr q8, ?_⟩
              rw [Bool.true_or] at q9
              rw [Bool.true_or, Bool.or_true, ← q9]
              simp (disch := omega) only [f_X10_forced_L43, f_X10_forced_j106, f_X10_forced_j107, hpl, hs, hsd, e1, hc, q1, k1, k2, q6, bI_t, bI_f, n_i8, n_i16, n_0, n_31, n_add, n_sub, n_mul, n_neg, n_div, n_rem, n_le_t, n_le_f, n_lt_t, n_lt_f, n_eq_t, n_eq_f, n_cl, n_gd, n_gdt, n_nz, Int.reduceToNat, Int.reduceAdd, Int.reduceSub, Int.reduceMul, Int.reduceNeg, Int.reduceLT, Int.reduceLE, Int.reduceEq, Int.reduceDiv, Int.reduceMod, Nat.reduceAdd, Nat.reduceMul, ↓reduceIte, u_eq, u_no, u_nk, u_ek, u_2, u_3, j_1, j_3, j_eq, j_no, j_nk, lt_def, Option.bind_some]
            | false =>
              rw [e8] at k2
              obtain ⟨s4, q8, q9⟩ := ih F (i + 1) false s3 (MA_Sc h q7) (by omega) (by omega) (by omega)
              refine ⟨s4, q7.tr q8, ?_⟩
              rw [Bool.false_or, ← q9]
              simp (disch := omega) only [f_X10_forced_L43, f_X10_forced_j106, f_X10_forced_j107, hpl, hs, hsd, e1, hc, q1, k1, k2, q6, bI_t, bI_f, n_i8, n_i16, n_0, n_31, n_add, n_sub, n_mul, n_neg, n_div, n_rem, n_le_t, n_le_f, n_lt_t, n_lt_f, n_eq_t, n_eq_f, n_cl, n_gd, n_gdt, n_nz, Int.reduceToNat, Int.reduceAdd, Int.reduceSub, Int.reduceMul, Int.reduceNeg, Int.reduceLT, Int.reduceLE, Int.reduceEq, Int.reduceDiv, Int.reduceMod, Nat.reduceAdd, Nat.reduceMul, ↓reduceIte, u_eq, u_no, u_nk, u_ek, u_2, u_3, j_1, j_3, j_eq, j_no, j_nk, lt_def, Option.bind_some]
        | false =>
          have hv : cond B G m i = false := by unfold cond; rw [e2, decide_eq_true e1]; rfl
          rw [e2] at hc
          obtain ⟨s4, q8, q9⟩ := ih F (i + 1) false s h (by omega) (by omega) (by omega)
          refine ⟨s4, q8, ?_⟩
          rw [hv, Bool.false_and, Bool.false_or, ← q9]
          simp (disch := omega) only [f_X10_forced_L43, hpl, hs, hsd, e1, hc, bI_f, n_i8, n_i16, n_0, n_31, n_add, n_sub, n_mul, n_neg, n_div, n_rem, n_le_t, n_le_f, n_lt_t, n_lt_f, n_eq_t, n_eq_f, n_cl, n_gd, n_gdt, n_nz, Int.reduceToNat, Int.reduceAdd, Int.reduceSub, Int.reduceMul, Int.reduceNeg, Int.reduceLT, Int.reduceLE, Int.reduceEq, Int.reduceDiv, Int.reduceMod, Nat.reduceAdd, Nat.reduceMul, ↓reduceIte, u_eq, u_no, u_nk, u_ek, u_2, u_3, j_1, j_3, j_eq, j_no, j_nk, lt_def, Option.bind_some]
      · have hv : cond B G m i = false := by unfold cond; rw [decide_eq_false e1]; rfl
        obtain ⟨s4, q8, q9⟩ := ih F (i + 1) false s h (by omega) (by omega) (by omega)
        refine ⟨s4, q8, ?_⟩
        rw [hv, Bool.false_and, Bool.false_or, ← q9]
        simp (disch := omega) only [f_X10_forced_L43, hpl, hs, hsd, e1, bI_f, n_i8, n_i16, n_0, n_31, n_add, n_sub, n_mul, n_neg, n_div, n_rem, n_le_t, n_le_f, n_lt_t, n_lt_f, n_eq_t, n_eq_f, n_cl, n_gd, n_gdt, n_nz, Int.reduceToNat, Int.reduceAdd, Int.reduceSub, Int.reduceMul, Int.reduceNeg, Int.reduceLT, Int.reduceLE, Int.reduceEq, Int.reduceDiv, Int.reduceMod, Nat.reduceAdd, Nat.reduceMul, ↓reduceIte, u_eq, u_no, u_nk, u_ek, u_2, u_3, j_1, j_3, j_eq, j_no, j_nk, lt_def, Option.bind_some]
theorem m_fo_L29 {B : Brd} {G : Gam} (K : Int32 → ST → Option (Int32 × ST)) : ∀ (n F : Nat) (i : Int) (is : Bool) (s : ST), MA B G s → 0 ≤ i → (n : Int) = bM B - i → n < F → ∃ s', Sc 0 1 s s' ∧ f_X10_forced_L29 K F (bI is) (Int32.ofInt i) s = K (bI (is || (upto n i).any (fun m => (sqs B).any (fun k => cond B G m k && crn B (mvK B G m k))))) s' := by
  intro n
  induction n with
  | zero =>
    intro F i is s h h0 hn hF
    obtain ⟨F, rfl⟩ : ∃ F', F = F' + 1 := ⟨F - 1, by omega⟩
    have hmm := m_manMany h
    have hM : bM B ≤ 8 := h.1.1.1.2.2.2.2.2.2.2.1; have hM0 : 0 ≤ bM B := h.1.1.1.2.2.2.2.2.2.1
    refine ⟨s, Sc.rf _ _ s, ?_⟩
    simp (disch := omega) only [f_X10_forced_L29, hmm, n_i8, n_i16, n_0, n_31, n_add, n_sub, n_mul, n_neg, n_div, n_rem, n_le_t, n_le_f, n_lt_t, n_lt_f, n_eq_t, n_eq_f, n_cl, n_gd, n_gdt, n_nz, Int.reduceToNat, Int.reduceAdd, Int.reduceSub, Int.reduceMul, Int.reduceNeg, Int.reduceLT, Int.reduceLE, Int.reduceEq, Int.reduceDiv, Int.reduceMod, Nat.reduceAdd, Nat.reduceMul, ↓reduceIte, u_eq, u_no, u_nk, u_ek, u_2, u_3, j_1, j_3, j_eq, j_no, j_nk, lt_def, Option.bind_some, upto, List.any_nil, Bool.or_false]
  | succ n ih =>
    intro F i is s h h0 hn hF
    obtain ⟨F, rfl⟩ : ∃ F', F = F' + 1 := ⟨F - 1, by omega⟩
    have hmm := m_manMany h
    have hM : bM B ≤ 8 := h.1.1.1.2.2.2.2.2.2.2.1; have hM0 : 0 ≤ bM B := h.1.1.1.2.2.2.2.2.2.1
    have hW : bW B ≤ 5 := h.1.1.1.2.1; have hH : bH B ≤ 5 := h.1.1.1.2.2.2.1; have hW0 : 0 ≤ bW B := h.1.1.1.1; have hH0 : 0 ≤ bH B := h.1.1.1.2.2.1; have hWH : bW B * bH B ≤ 25 := (Int.mul_le_mul hW hH hH0 (by omega)); have hWH0 : 0 ≤ bW B * bH B := Int.mul_nonneg hW0 hH0
    cases is with
    | true =>
      refine ⟨s, Sc.rf _ _ s, ?_⟩
      simp (disch := omega) only [f_X10_forced_L29, hmm, bI_t, Bool.true_or, n_i8, n_i16, n_0, n_31, n_add, n_sub, n_mul, n_neg, n_div, n_rem, n_le_t, n_le_f, n_lt_t, n_lt_f, n_eq_t, n_eq_f, n_cl, n_gd, n_gdt, n_nz, Int.reduceToNat, Int.reduceAdd, Int.reduceSub, Int.reduceMul, Int.reduceNeg, Int.reduceLT, Int.reduceLE, Int.reduceEq, Int.reduceDiv, Int.reduceMod, Nat.reduceAdd, Nat.reduceMul, ↓reduceIte, u_eq, u_no, u_nk, u_ek, u_2, u_3, j_1, j_3, j_eq, j_no, j_nk, lt_def, Option.bind_some]
    | false =>
      obtain ⟨s1, q1, q2⟩ := m_fo_L43 (G := G) h0 (show i < bM B by omega) (f_X10_forced_L29 K F) (bW B * bH B).toNat fuel 0 false s h (by omega) (by omega) (by unfold fuel; omega)
      have q2 : f_X10_forced_L43 (f_X10_forced_L29 K F) fuel (bI false) (Int32.ofInt i) (Int32.ofInt 0) s = f_X10_forced_L29 K F (bI ((sqs B).any (fun k => cond B G i k && crn B (mvK B G i k)))) (Int32.ofInt (i + 1)) s1 := q2
      obtain ⟨s2, q3, q4⟩ := ih F (i + 1) ((sqs B).any (fun k => cond B G i k && crn B (mvK B G i k))) s1 (MA_Sc h q1) (by omega) (by omega) (by omega)
      refine ⟨s2, q1.tr q3, ?_⟩
      rw [upto, List.any_cons, Bool.false_or, ← q4, ← q2]
      simp (disch := omega) only [f_X10_forced_L29, hmm, bI_f, n_i8, n_i16, n_0, n_31, n_add, n_sub, n_mul, n_neg, n_div, n_rem, n_le_t, n_le_f, n_lt_t, n_lt_f, n_eq_t, n_eq_f, n_cl, n_gd, n_gdt, n_nz, Int.reduceToNat, Int.reduceAdd, Int.reduceSub, Int.reduceMul, Int.reduceNeg, Int.reduceLT, Int.reduceLE, Int.reduceEq, Int.reduceDiv, Int.reduceMod, Nat.reduceAdd, Nat.reduceMul, ↓reduceIte, u_eq, u_no, u_nk, u_ek, u_2, u_3, j_1, j_3, j_eq, j_no, j_nk, lt_def, Option.bind_some]
/-- forced, on a board that stands -/
def fcd (B : Brd) (G : Gam) : Int := if ovr B G = true then -1 else if chk B G (1 - gs G) = true then 1 else if (mens B).any (fun m => (sqs B).any (fun k => cond B G m k && crn B (mvK B G m k))) = true then 2 else -1
theorem m_forced {B : Brd} {G : Gam} {s : ST} (h : MA B G s) (hb : s.1 65 58 = Int32.ofInt 1) : ∃ s', Sc 0 1 s s' ∧ f_X10_forced s = some (Int32.ofInt (fcd B G), s') := by
  have k1 := m_isOver h
  have k2 := m_takesCrown h
  have hM : bM B ≤ 8 := h.1.1.1.2.2.2.2.2.2.2.1; have hM0 : 0 ≤ bM B := h.1.1.1.2.2.2.2.2.2.1
  obtain ⟨s1, q1, q2⟩ := m_fo_L29 (G := G) f_X10_forced_j125 (bM B).toNat fuel 0 false s h (by omega) (by omega) (by unfold fuel; omega)
  have q2 : f_X10_forced_L29 f_X10_forced_j125 fuel (Int32.ofInt 0) (Int32.ofInt 0) s = f_X10_forced_j125 (bI ((mens B).any (fun m => (sqs B).any (fun k => cond B G m k && crn B (mvK B G m k))))) s1 := q2
  unfold fcd
  cases e1 : ovr B G with
  | true =>
    rw [e1] at k1
    exact ⟨s, Sc.rf _ _ _, by simp (disch := omega) only [f_X10_forced, hb, k1, bI_t, n_i8, n_i16, n_0, n_31, n_add, n_sub, n_mul, n_neg, n_div, n_rem, n_le_t, n_le_f, n_lt_t, n_lt_f, n_eq_t, n_eq_f, n_cl, n_gd, n_gdt, n_nz, Int.reduceToNat, Int.reduceAdd, Int.reduceSub, Int.reduceMul, Int.reduceNeg, Int.reduceLT, Int.reduceLE, Int.reduceEq, Int.reduceDiv, Int.reduceMod, Nat.reduceAdd, Nat.reduceMul, ↓reduceIte, u_eq, u_no, u_nk, u_ek, u_2, u_3, j_1, j_3, j_eq, j_no, j_nk, lt_def, Option.bind_some]⟩
  | false =>
    rw [e1] at k1
    cases e2 : chk B G (1 - gs G) with
    | true =>
      rw [e2] at k2
      exact ⟨s, Sc.rf _ _ _, by simp (disch := omega) only [f_X10_forced, hb, k1, k2, bI_t, bI_f, n_i8, n_i16, n_0, n_31, n_add, n_sub, n_mul, n_neg, n_div, n_rem, n_le_t, n_le_f, n_lt_t, n_lt_f, n_eq_t, n_eq_f, n_cl, n_gd, n_gdt, n_nz, Int.reduceToNat, Int.reduceAdd, Int.reduceSub, Int.reduceMul, Int.reduceNeg, Int.reduceLT, Int.reduceLE, Int.reduceEq, Int.reduceDiv, Int.reduceMod, Nat.reduceAdd, Nat.reduceMul, ↓reduceIte, u_eq, u_no, u_nk, u_ek, u_2, u_3, j_1, j_3, j_eq, j_no, j_nk, lt_def, Option.bind_some, Bool.false_eq_true]⟩
    | false =>
      rw [e2] at k2
      refine ⟨s1, q1, ?_⟩
      cases e3 : (mens B).any (fun m => (sqs B).any (fun k => cond B G m k && crn B (mvK B G m k))) with
      | true =>
        rw [e3] at q2
        simp (disch := omega) only [f_X10_forced, f_X10_forced_j125, hb, k1, k2, q2, bI_t, bI_f, n_i8, n_i16, n_0, n_31, n_add, n_sub, n_mul, n_neg, n_div, n_rem, n_le_t, n_le_f, n_lt_t, n_lt_f, n_eq_t, n_eq_f, n_cl, n_gd, n_gdt, n_nz, Int.reduceToNat, Int.reduceAdd, Int.reduceSub, Int.reduceMul, Int.reduceNeg, Int.reduceLT, Int.reduceLE, Int.reduceEq, Int.reduceDiv, Int.reduceMod, Nat.reduceAdd, Nat.reduceMul, ↓reduceIte, u_eq, u_no, u_nk, u_ek, u_2, u_3, j_1, j_3, j_eq, j_no, j_nk, lt_def, Option.bind_some, Bool.false_eq_true]
      | false =>
        rw [e3] at q2
        simp (disch := omega) only [f_X10_forced, f_X10_forced_j125, hb, k1, k2, q2, bI_t, bI_f, n_i8, n_i16, n_0, n_31, n_add, n_sub, n_mul, n_neg, n_div, n_rem, n_le_t, n_le_f, n_lt_t, n_lt_f, n_eq_t, n_eq_f, n_cl, n_gd, n_gdt, n_nz, Int.reduceToNat, Int.reduceAdd, Int.reduceSub, Int.reduceMul, Int.reduceNeg, Int.reduceLT, Int.reduceLE, Int.reduceEq, Int.reduceDiv, Int.reduceMod, Nat.reduceAdd, Nat.reduceMul, ↓reduceIte, u_eq, u_no, u_nk, u_ek, u_2, u_3, j_1, j_3, j_eq, j_no, j_nk, lt_def, Option.bind_some, Bool.false_eq_true]
