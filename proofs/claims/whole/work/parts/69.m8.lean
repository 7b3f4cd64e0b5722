/-! L3: the reference chooses -/
/-- only notes and what is chosen have changed -/
def Sd (s s' : ST) : Prop := (∀ o k : Nat, ¬ (114 ≤ o ∧ o ≤ 117) → ¬ (o = 65 ∧ 68 ≤ k ∧ k ≤ 70) → s'.1 o k = s.1 o k) ∧ s'.2 = s.2
theorem Sd.rf (s : ST) : Sd s s := ⟨fun _ _ _ _ => rfl, rfl⟩
theorem Sd.tr {s t u : ST} (h1 : Sd s t) (h2 : Sd t u) : Sd s u := ⟨fun o k hk hk' => (h2.1 o k hk hk').trans (h1.1 o k hk hk'), h2.2.trans h1.2⟩
theorem Sc.sd {a b : Int} {s t : ST} (h : Sc a b s t) : Sd s t := ⟨fun o k hk hk' => h.1 o k (by omega), h.2⟩
theorem MA_Sd {B : Brd} {G : Gam} {s s' : ST} (h : MA B G s) (hs : Sd s s') : MA B G s' := MA_fr h (fun o k hk => hs.1 o k (by omega) (by omega))
abbrev CA : Type := Int × Int × Int × Int × Int
def CH (A : CA) (s : ST) : Prop := s.1 65 68 = Int32.ofInt A.1 ∧ (¬ A.1 = -1 → s.1 65 69 = Int32.ofInt A.2.2.2.1 ∧ s.1 65 70 = Int32.ofInt A.2.2.2.2)
theorem CH_Sc {A : CA} {a b : Int} {s t : ST} (h : CH A s) (hs : Sc a b s t) : CH A t := by
  unfold CH at *
  rw [hs.1 65 68 (by omega), hs.1 65 69 (by omega), hs.1 65 70 (by omega)]
  exact h
def cput (A : CA) (v m k : Int) : CA := if A.1 = -1 ∨ A.2.1 < v then (A.2.2.1, v, A.2.2.1 + 1, m, k) else (A.1, A.2.1, A.2.2.1 + 1, A.2.2.2.1, A.2.2.2.2)
def cstep (B : Brd) (f : Gam → Int) (G : Gam) (m : Int) (A : CA) (k : Int) : CA := if sd B m = gs G ∧ goK B G m k = true then cput A (-(f (mvK B G m k))) m k else A
def cK (B : Brd) (f : Gam → Int) (G : Gam) (A : CA) (m : Int) : CA := (sqs B).foldl (cstep B f G m) A
def cb (B : Brd) (f : Gam → Int) (G : Gam) : CA := if ct B G = true then (-1, 0, 0, 0, 0) else (mens B).foldl (cK B f G) (-1, 0, 0, 0, 0)
def inA (A : CA) (n : Int) : Prop := -1 ≤ A.1 ∧ A.1 ≤ n ∧ -1000 ≤ A.2.1 ∧ A.2.1 ≤ 1000 ∧ 0 ≤ A.2.2.1 ∧ A.2.2.1 ≤ n
theorem cput_b {A : CA} {n v m k : Int} (h : inA A n) (hv : -1000 ≤ v ∧ v ≤ 1000) : inA (cput A v m k) (n + 1) := by
  unfold inA cput at *
  split
  · show -1 ≤ A.2.2.1 ∧ A.2.2.1 ≤ n + 1 ∧ -1000 ≤ v ∧ v ≤ 1000 ∧ 0 ≤ A.2.2.1 + 1 ∧ A.2.2.1 + 1 ≤ n + 1
    omega
  · show -1 ≤ A.1 ∧ A.1 ≤ n + 1 ∧ -1000 ≤ A.2.1 ∧ A.2.1 ≤ 1000 ∧ 0 ≤ A.2.2.1 + 1 ∧ A.2.2.1 + 1 ≤ n + 1
    omega
theorem cstep_b {B : Brd} {f : Gam → Int} (hf : ∀ G, -1000 ≤ f G ∧ f G ≤ 1000) {G : Gam} {m : Int} {A : CA} {n : Int} (h : inA A n) (k : Int) : inA (cstep B f G m A k) (n + 1) := by
  unfold cstep
  split
  · have := hf (mvK B G m k)
    exact cput_b h (by omega)
  · unfold inA at *
    omega
theorem m_cb_L32 {B : Brd} {G : Gam} {m d : Int} (hd1 : 1 ≤ d) (hd3 : d ≤ 3) (h1 : 0 ≤ m) (h2 : m < bM B) (K : Int32 → Int32 → Int32 → Int32 → ST → Option ST) : ∀ (n F : Nat) (i : Int) (A : CA) (s : ST), MA B G s → CH A s → 0 ≤ i → (n : Int) = bW B * bH B - i → n < F → inA A (25 * m + i) → ∃ s', Sd s s' ∧ CH ((upto n i).foldl (cstep B (val B (d - 1).toNat) G m) A) s' ∧ inA ((upto n i).foldl (cstep B (val B (d - 1).toNat) G m) A) (25 * m + bW B * bH B) ∧ f_X10_choosesBest_L32 K F (Int32.ofInt d) (Int32.ofInt A.2.1) (Int32.ofInt A.2.2.1) (Int32.ofInt m) (Int32.ofInt i) s = K (Int32.ofInt d) (Int32.ofInt ((upto n i).foldl (cstep B (val B (d - 1).toNat) G m) A).2.1) (Int32.ofInt ((upto n i).foldl (cstep B (val B (d - 1).toNat) G m) A).2.2.1) (Int32.ofInt (m + 1)) s' := by
  intro n
  induction n with
  | zero =>
    intro F i A s h hC h0 hn hF hp
    obtain ⟨F, rfl⟩ : ∃ F', F = F' + 1 := ⟨F - 1, by omega⟩
    have hpl := m_places h
    have hW : bW B ≤ 5 := h.1.1.1.2.1; have hH : bH B ≤ 5 := h.1.1.1.2.2.2.1; have hW0 : 0 ≤ bW B := h.1.1.1.1; have hH0 : 0 ≤ bH B := h.1.1.1.2.2.1; have hWH : bW B * bH B ≤ 25 := (Int.mul_le_mul hW hH hH0 (by omega)); have hWH0 : 0 ≤ bW B * bH B := Int.mul_nonneg hW0 hH0
    refine ⟨s, Sd.rf s, hC, ?_, ?_⟩
    · show inA A _
      have : i = bW B * bH B := by omega
      rw [← this]; exact hp
    · simp (disch := omega) only [f_X10_choosesBest_L32, hpl, n_i8, n_i16, n_0, n_31, n_add, n_sub, n_mul, n_neg, n_div, n_rem, n_le_t, n_le_f, n_lt_t, n_lt_f, n_eq_t, n_eq_f, n_cl, n_gd, n_gdt, n_nz, Int.reduceToNat, Int.reduceAdd, Int.reduceSub, Int.reduceMul, Int.reduceNeg, Int.reduceLT, Int.reduceLE, Int.reduceEq, Int.reduceDiv, Int.reduceMod, Nat.reduceAdd, Nat.reduceMul, ↓reduceIte, u_eq, u_no, u_nk, u_ek, u_2, u_3, j_1, j_3, j_eq, j_no, j_nk, lt_def, Option.bind_some, upto, List.foldl_nil]
  | succ n ih =>
    intro F i A s h hC h0 hn hF hp
    obtain ⟨F, rfl⟩ : ∃ F', F = F' + 1 := ⟨F - 1, by omega⟩
    have hpl := m_places h
    have hs := m_sideOf h h1 h2
    have hsd := m_side h
    have hgs := h.2.1.1.2.2
    have hb := h.1.2.2.1 m h1 h2
    have hM : bM B ≤ 8 := h.1.1.1.2.2.2.2.2.2.2.1; have hM0 : 0 ≤ bM B := h.1.1.1.2.2.2.2.2.2.1
    have hW : bW B ≤ 5 := h.1.1.1.2.1; have hH : bH B ≤ 5 := h.1.1.1.2.2.2.1; have hW0 : 0 ≤ bW B := h.1.1.1.1; have hH0 : 0 ≤ bH B := h.1.1.1.2.2.1; have hWH : bW B * bH B ≤ 25 := (Int.mul_le_mul hW hH hH0 (by omega)); have hWH0 : 0 ≤ bW B * bH B := Int.mul_nonneg hW0 hH0
    have hc : f_X10_canGo (Int32.ofInt m) (Int32.ofInt i) s = some (bI (goK B G m i), s) := m_canGo h h1 h2 h0 (show i < bW B * bH B by omega)
    simp only [upto, List.foldl_cons]
    have hA' : inA (cstep B (val B (d - 1).toNat) G m A i) (25 * m + (i + 1)) := by
      rw [← Int.add_assoc]
      exact cstep_b (fun G => val_b h.1 (d - 1).toNat G) hp i
    by_cases e1 : sd B m = gs G
    · cases e2 : goK B G m i with
      | true =>
        have hv : cstep B (val B (d - 1).toNat) G m A i = cput A (-(val B (d - 1).toNat (mvK B G m i))) m i := by unfold cstep; rw [if_pos ⟨e1, e2⟩]
        obtain ⟨s1, q1, q2, -, q3⟩ := m_try h (L := 0) (by omega) (by omega) h1 h2 h0 (by omega) e2
        obtain ⟨s2, q4, q5⟩ := m_valueBy q2 (d := d - 1) (by omega) (by omega)
        obtain ⟨s3, q6, q7⟩ := q3 s2 1 (d - 1) q5 (by omega) 0 3 (by omega) (by omega) (by omega) (by omega)
        have q4 : f_X10_valueBy (Int32.ofInt (d - 1)) s1 = some (Int32.ofInt (val B (d - 1).toNat (mvK B G m i)), s2) := q4
        have hvb := val_b h.1 (d - 1).toNat (mvK B G m i)
        rw [hv] at hA' ⊢
        rw [e2] at hc
        have hC3 := CH_Sc hC q7
        have c68 : s3.1 65 68 = Int32.ofInt A.1 := hC3.1
        unfold inA at hp
        by_cases e3 : A.1 = -1 ∨ A.2.1 < -(val B (d - 1).toNat (mvK B G m i))
        · have hz : cput A (-(val B (d - 1).toNat (mvK B G m i))) m i = (A.2.2.1, -(val B (d - 1).toNat (mvK B G m i)), A.2.2.1 + 1, m, i) := by unfold cput; rw [if_pos e3]
          have hSd : Sd s3 (uI (uI (uI s3 65 68 (Int32.ofInt A.2.2.1)) 65 69 (Int32.ofInt m)) 65 70 (Int32.ofInt i)) := by
            refine ⟨fun o k hk hk' => ?_, rfl⟩
            by_cases eo : o = 65
            · rw [u_nk (by omega), u_nk (by omega), u_nk (by omega)]
            · rw [u_no eo, u_no eo, u_no eo]
          have hCn : CH (A.2.2.1, -(val B (d - 1).toNat (mvK B G m i)), A.2.2.1 + 1, m, i) (uI (uI (uI s3 65 68 (Int32.ofInt A.2.2.1)) 65 69 (Int32.ofInt m)) 65 70 (Int32.ofInt i)) := by
            unfold CH
            simp (disch := omega) only [u_eq, u_no, u_nk, u_ek, u_2, u_3, j_1, j_3, j_eq, j_no, j_nk, lt_def, Option.bind_some, and_self, implies_true]
          rw [hz] at hA' ⊢
          obtain ⟨s4, q8, q9, q10, q11⟩ := ih F (i + 1) _ _ (MA_Sd (MA_Sc h q7) hSd) hCn (by omega) (by omega) (by omega) hA'
          refine ⟨s4, (q7.sd.tr hSd).tr q8, q9, q10, ?_⟩
          rw [← q11]
          by_cases e4 : A.1 = -1
          · simp (disch := omega) only [f_X10_choosesBest_L32, f_X10_choosesBest_j108, hpl, hs, hsd, e1, hc, q1, q4, q6, c68, e4, bI_t, bI_f, n_i8, n_i16, n_0, n_31, n_add, n_sub, n_mul, n_neg, n_div, n_rem, n_le_t, n_le_f, n_lt_t, n_lt_f, n_eq_t, n_eq_f, n_cl, n_gd, n_gdt, n_nz, Int.reduceToNat, Int.reduceAdd, Int.reduceSub, Int.reduceMul, Int.reduceNeg, Int.reduceLT, Int.reduceLE, Int.reduceEq, Int.reduceDiv, Int.reduceMod, Nat.reduceAdd, Nat.reduceMul, ↓reduceIte, u_eq, u_no, u_nk, u_ek, u_2, u_3, j_1, j_3, j_eq, j_no, j_nk, lt_def, Option.bind_some]
          · simp (disch := omega) only [f_X10_choosesBest_L32, f_X10_choosesBest_j108, hpl, hs, hsd, e1, hc, q1, q4, q6, c68, bI_t, bI_f, n_i8, n_i16, n_0, n_31, n_add, n_sub, n_mul, n_neg, n_div, n_rem, n_le_t, n_le_f, n_lt_t, n_lt_f, n_eq_t, n_eq_f, n_cl, n_gd, n_gdt, n_nz, Int.reduceToNat, Int.reduceAdd, Int.reduceSub, Int.reduceMul, Int.reduceNeg, Int.reduceLT, Int.reduceLE, Int.reduceEq, Int.reduceDiv, Int.reduceMod, Nat.reduceAdd, Nat.reduceMul, ↓reduceIte, u_eq, u_no, u_nk, u_ek, u_2, u_3, j_1, j_3, j_eq, j_no, j_nk, lt_def, Option.bind_some]
        · have hz : cput A (-(val B (d - 1).toNat (mvK B G m i))) m i = (A.1, A.2.1, A.2.2.1 + 1, A.2.2.2.1, A.2.2.2.2) := by unfold cput; rw [if_neg e3]
          rw [hz] at hA' ⊢
          obtain ⟨s4, q8, q9, q10, q11⟩ := ih F (i + 1) (A.1, A.2.1, A.2.2.1 + 1, A.2.2.2.1, A.2.2.2.2) s3 (MA_Sc h q7) hC3 (by omega) (by omega) (by omega) hA'
          refine ⟨s4, q7.sd.tr q8, q9, q10, ?_⟩
          rw [← q11]
          simp (disch := omega) only [f_X10_choosesBest_L32, f_X10_choosesBest_j108, hpl, hs, hsd, e1, hc, q1, q4, q6, c68, bI_t, bI_f, n_i8, n_i16, n_0, n_31, n_add, n_sub, n_mul, n_neg, n_div, n_rem, n_le_t, n_le_f, n_lt_t, n_lt_f, n_eq_t, n_eq_f, n_cl, n_gd, n_gdt, n_nz, Int.reduceToNat, Int.reduceAdd, Int.reduceSub, Int.reduceMul, Int.reduceNeg, Int.reduceLT, Int.reduceLE, Int.reduceEq, Int.reduceDiv, Int.reduceMod, Nat.reduceAdd, Nat.reduceMul, ↓reduceIte, u_eq, u_no, u_nk, u_ek, u_2, u_3, j_1, j_3, j_eq, j_no, j_nk, lt_def, Option.bind_some]
      | false =>
        have hv : cstep B (val B (d - 1).toNat) G m A i = A := by unfold cstep; rw [if_neg (fun c => by rw [e2] at c; cases c.2)]
        rw [hv] at hA' ⊢
        obtain ⟨s4, q8, q9, q10, q11⟩ := ih F (i + 1) A s h hC (by omega) (by omega) (by omega) hA'
        refine ⟨s4, q8, q9, q10, ?_⟩
        rw [← q11]
        rw [e2] at hc
        simp (disch := omega) only [f_X10_choosesBest_L32, hpl, hs, hsd, e1, hc, bI_f, n_i8, n_i16, n_0, n_31, n_add, n_sub, n_mul, n_neg, n_div, n_rem, n_le_t, n_le_f, n_lt_t, n_lt_f, n_eq_t, n_eq_f, n_cl, n_gd, n_gdt, n_nz, Int.reduceToNat, Int.reduceAdd, Int.reduceSub, Int.reduceMul, Int.reduceNeg, Int.reduceLT, Int.reduceLE, Int.reduceEq, Int.reduceDiv, Int.reduceMod, Nat.reduceAdd, Nat.reduceMul, ↓reduceIte, u_eq, u_no, u_nk, u_ek, u_2, u_3, j_1, j_3, j_eq, j_no, j_nk, lt_def, Option.bind_some]
    · have hv : cstep B (val B (d - 1).toNat) G m A i = A := by unfold cstep; rw [if_neg (fun c => e1 c.1)]
      rw [hv] at hA' ⊢
      obtain ⟨s4, q8, q9, q10, q11⟩ := ih F (i + 1) A s h hC (by omega) (by omega) (by omega) hA'
      refine ⟨s4, q8, q9, q10, ?_⟩
      rw [← q11]
      simp (disch := omega) only [f_X10_choosesBest_L32, hpl, hs, hsd, e1, n_i8, n_i16, n_0, n_31, n_add, n_sub, n_mul, n_neg, n_div, n_rem, n_le_t, n_le_f, n_lt_t, n_lt_f, n_eq_t, n_eq_f, n_cl, n_gd, n_gdt, n_nz, Int.reduceToNat, Int.reduceAdd, Int.reduceSub, Int.reduceMul, Int.reduceNeg, Int.reduceLT, Int.reduceLE, Int.reduceEq, Int.reduceDiv, Int.reduceMod, Nat.reduceAdd, Nat.reduceMul, ↓reduceIte, u_eq, u_no, u_nk, u_ek, u_2, u_3, j_1, j_3, j_eq, j_no, j_nk, lt_def, Option.bind_some]
theorem m_cb_L20 {B : Brd} {G : Gam} {d : Int} (hd1 : 1 ≤ d) (hd3 : d ≤ 3) : ∀ (n F : Nat) (i : Int) (A : CA) (s : ST), MA B G s → CH A s → 0 ≤ i → (n : Int) = bM B - i → n < F → inA A (25 * i) → ∃ s', Sd s s' ∧ CH ((upto n i).foldl (cK B (val B (d - 1).toNat) G) A) s' ∧ f_X10_choosesBest_L20 F (Int32.ofInt d) (Int32.ofInt A.2.1) (Int32.ofInt A.2.2.1) (Int32.ofInt i) s = some s' := by
  intro n
  induction n with
  | zero =>
    intro F i A s h hC h0 hn hF hp
    obtain ⟨F, rfl⟩ : ∃ F', F = F' + 1 := ⟨F - 1, by omega⟩
    have hmm := m_manMany h
    have hM : bM B ≤ 8 := h.1.1.1.2.2.2.2.2.2.2.1; have hM0 : 0 ≤ bM B := h.1.1.1.2.2.2.2.2.2.1
    refine ⟨s, Sd.rf s, hC, ?_⟩
    simp (disch := omega) only [f_X10_choosesBest_L20, hmm, n_i8, n_i16, n_0, n_31, n_add, n_sub, n_mul, n_neg, n_div, n_rem, n_le_t, n_le_f, n_lt_t, n_lt_f, n_eq_t, n_eq_f, n_cl, n_gd, n_gdt, n_nz, Int.reduceToNat, Int.reduceAdd, Int.reduceSub, Int.reduceMul, Int.reduceNeg, Int.reduceLT, Int.reduceLE, Int.reduceEq, Int.reduceDiv, Int.reduceMod, Nat.reduceAdd, Nat.reduceMul, ↓reduceIte, u_eq, u_no, u_nk, u_ek, u_2, u_3, j_1, j_3, j_eq, j_no, j_nk, lt_def, Option.bind_some]
  | succ n ih =>
    intro F i A s h hC h0 hn hF hp
    obtain ⟨F, rfl⟩ : ∃ F', F = F' + 1 := ⟨F - 1, by omega⟩
    have hmm := m_manMany h
    have hM : bM B ≤ 8 := h.1.1.1.2.2.2.2.2.2.2.1; have hM0 : 0 ≤ bM B := h.1.1.1.2.2.2.2.2.2.1
    have hW : bW B ≤ 5 := h.1.1.1.2.1; have hH : bH B ≤ 5 := h.1.1.1.2.2.2.1; have hW0 : 0 ≤ bW B := h.1.1.1.1; have hH0 : 0 ≤ bH B := h.1.1.1.2.2.1; have hWH : bW B * bH B ≤ 25 := (Int.mul_le_mul hW hH hH0 (by omega)); have hWH0 : 0 ≤ bW B * bH B := Int.mul_nonneg hW0 hH0
    obtain ⟨s1, q1, q2, q3, q4⟩ := m_cb_L32 (G := G) hd1 hd3 h0 (show i < bM B by omega) (f_X10_choosesBest_L20 F) (bW B * bH B).toNat fuel 0 A s h hC (by omega) (by omega) (by unfold fuel; omega) (by rw [Int.add_zero]; exact hp)
    have q3 : inA (cK B (val B (d - 1).toNat) G A i) (25 * (i + 1)) := by
      have q3 : inA (cK B (val B (d - 1).toNat) G A i) (25 * i + bW B * bH B) := q3
      unfold inA at *
      omega
    obtain ⟨s2, q5, q6, q7⟩ := ih F (i + 1) (cK B (val B (d - 1).toNat) G A i) s1 (MA_Sd h q1) q2 (by omega) (by omega) (by omega) q3
    refine ⟨s2, q1.tr q5, ?_, ?_⟩
    · simp only [upto, List.foldl_cons]
      exact q6
    · have q4 : f_X10_choosesBest_L32 (f_X10_choosesBest_L20 F) fuel (Int32.ofInt d) (Int32.ofInt A.2.1) (Int32.ofInt A.2.2.1) (Int32.ofInt i) (Int32.ofInt 0) s = f_X10_choosesBest_L20 F (Int32.ofInt d) (Int32.ofInt (cK B (val B (d - 1).toNat) G A i).2.1) (Int32.ofInt (cK B (val B (d - 1).toNat) G A i).2.2.1) (Int32.ofInt (i + 1)) s1 := q4
      rw [← q7, ← q4]
      simp (disch := omega) only [f_X10_choosesBest_L20, hmm, n_i8, n_i16, n_0, n_31, n_add, n_sub, n_mul, n_neg, n_div, n_rem, n_le_t, n_le_f, n_lt_t, n_lt_f, n_eq_t, n_eq_f, n_cl, n_gd, n_gdt, n_nz, Int.reduceToNat, Int.reduceAdd, Int.reduceSub, Int.reduceMul, Int.reduceNeg, Int.reduceLT, Int.reduceLE, Int.reduceEq, Int.reduceDiv, Int.reduceMod, Nat.reduceAdd, Nat.reduceMul, ↓reduceIte, u_eq, u_no, u_nk, u_ek, u_2, u_3, j_1, j_3, j_eq, j_no, j_nk, lt_def, Option.bind_some]
theorem m_choosesBest {B : Brd} {G : Gam} {s : ST} (h : MA B G s) {d : Int} (hd1 : 1 ≤ d) (hd3 : d ≤ 3) : ∃ s', f_X10_choosesBest (Int32.ofInt d) s = some s' ∧ Sd s s' ∧ CH (cb B (val B (d - 1).toNat) G) s' := by
  have hS : Sd s (uI s 65 68 (Int32.ofInt (-1))) := by
    refine ⟨fun o k hk hk' => ?_, rfl⟩
    by_cases eo : o = 65
    · rw [u_nk (by omega)]
    · rw [u_no eo]
  have hA := MA_Sd h hS
  have hct := m_isCrownTaken hA
  have hM : bM B ≤ 8 := h.1.1.1.2.2.2.2.2.2.2.1; have hM0 : 0 ≤ bM B := h.1.1.1.2.2.2.2.2.2.1
  unfold cb
  cases e : ct B G with
  | true =>
    rw [e] at hct
    refine ⟨uI s 65 68 (Int32.ofInt (-1)), ?_, hS, ?_⟩
    · simp (disch := omega) only [f_X10_choosesBest, hct, bI_t, n_i8, n_i16, n_0, n_31, n_add, n_sub, n_mul, n_neg, n_div, n_rem, n_le_t, n_le_f, n_lt_t, n_lt_f, n_eq_t, n_eq_f, n_cl, n_gd, n_gdt, n_nz, Int.reduceToNat, Int.reduceAdd, Int.reduceSub, Int.reduceMul, Int.reduceNeg, Int.reduceLT, Int.reduceLE, Int.reduceEq, Int.reduceDiv, Int.reduceMod, Nat.reduceAdd, Nat.reduceMul, ↓reduceIte, u_eq, u_no, u_nk, u_ek, u_2, u_3, j_1, j_3, j_eq, j_no, j_nk, lt_def, Option.bind_some]
    · rw [if_pos rfl]
      exact ⟨u_eq _ _ _ _, fun c => absurd rfl c⟩
  | false =>
    rw [e] at hct
    obtain ⟨s1, q1, q2, q3⟩ := m_cb_L20 (G := G) hd1 hd3 (bM B).toNat fuel 0 (-1, 0, 0, 0, 0) (uI s 65 68 (Int32.ofInt (-1))) hA ⟨u_eq _ _ _ _, fun c => absurd rfl c⟩ (by omega) (by omega) (by unfold fuel; omega) (by unfold inA; simp)
    refine ⟨s1, ?_, hS.tr q1, ?_⟩
    · simp (disch := omega) only [f_X10_choosesBest, hct, bI_f, n_i8, n_i16, n_0, n_31, n_add, n_sub, n_mul, n_neg, n_div, n_rem, n_le_t, n_le_f, n_lt_t, n_lt_f, n_eq_t, n_eq_f, n_cl, n_gd, n_gdt, n_nz, Int.reduceToNat, Int.reduceAdd, Int.reduceSub, Int.reduceMul, Int.reduceNeg, Int.reduceLT, Int.reduceLE, Int.reduceEq, Int.reduceDiv, Int.reduceMod, Nat.reduceAdd, Nat.reduceMul, ↓reduceIte, u_eq, u_no, u_nk, u_ek, u_2, u_3, j_1, j_3, j_eq, j_no, j_nk, lt_def, Option.bind_some]
      exact q3
    · rw [if_neg (by simp)]
      exact q2
