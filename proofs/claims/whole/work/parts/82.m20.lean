/-! L3: spared fields and seen rows of the reference -/
theorem bnd {α β : Type} (a : α) (f : α → Option β) : (some a).bind f = f a := by
  cases h : (some a : Option α) with
  | none => cases h
  | some b => cases h; rfl
theorem ltd {α β : Type} (x : α) (f : α → Option β) : lt x f = f x := by
  have h : lt x f = f x ∧ True := ⟨rfl, trivial⟩
  exact h.1
theorem mvN_b {B : Brd} {G : Gam} (hB : Bv B) : 0 ≤ mvN B G ∧ mvN B G ≤ 200 := by
  have hM : bM B ≤ 8 := hB.1.1.2.2.2.2.2.2.2.1
  have hM0 : 0 ≤ bM B := hB.1.1.2.2.2.2.2.2.1
  have h1 : ∀ m, 0 ≤ mvN1 B G m ∧ mvN1 B G m ≤ 25 := by
    intro m
    unfold mvN1
    split
    · have h1 : (ks B G m).length ≤ (sqs B).length := List.length_filter_le _ _
      have h2 := sqs_len hB
      unfold nMov
      omega
    · omega
  have h2 : ∀ (n : Nat) (i : Int), 0 ≤ smL (mvN1 B G) (upto n i) ∧ smL (mvN1 B G) (upto n i) ≤ 25 * n := by
    intro n
    induction n with
    | zero => intro i; simp [upto, smL]
    | succ n ih =>
      intro i
      have a := ih (i + 1)
      have b := h1 i
      simp only [upto, smL]
      omega
  unfold mvN
  split
  · omega
  · have := h2 (bM B).toNat 0
    unfold mens
    omega
theorem MH_TH {B : Brd} {s0 s : ST} (h : MH B s0) (ht : TH s0 s) : MH B s := MH_fr h (fun o k o1 o2 => ht.2.2.1 o k (by unfold QP; omega) (by omega) (by omega))
def spS (B : Brd) (f n : Int) (G : Gam) (p : Int × Int) (k : Int) : Int × Int := if p.2 < gb (daysN B (-1) 0 (n - 1).toNat (dayG B G (chz B G k))) f then (k, gb (daysN B (-1) 0 (n - 1).toNat (dayG B G (chz B G k))) f) else p
theorem m_spare_L {B : Brd} {G : Gam} {s0 : ST} (hA0 : MA B G s0) (hH0 : MH B s0) (hV : Hv B) (hD : Bd B) (h78 : s0.1 65 78 = Int32.ofInt (-1)) {f n : Int} {w : Int32} (f1 : 0 ≤ f) (f2 : f < bF B) (n1 : 1 ≤ n) (n2 : n ≤ 6) (hd : gd_ G + n ≤ 999) {N : Int} (hN0 : 0 ≤ N) (hN : N ≤ 200) (K : Int32 → Int32 → Int32 → ST → Option (Int32 × ST)) : ∀ (c F : Nat) (i : Int) (p : Int × Int) (s : ST), TH s0 s → MA B G s → s.1 65 78 = s0.1 65 78 → 0 ≤ i → (c : Int) = N - i → c < F → (-1 ≤ p.1 ∧ p.1 ≤ 1000 ∧ -1 ≤ p.2 ∧ p.2 ≤ 999) → ∃ s', TH s0 s' ∧ s'.1 65 78 = s0.1 65 78 ∧ f_X10_spare_L50 K F (Int32.ofInt f) (Int32.ofInt n) w (Int32.ofInt p.1) (Int32.ofInt p.2) (Int32.ofInt (N)) (Int32.ofInt i) s = K w (Int32.ofInt ((upto c i).foldl (spS B f n G) p).1) (Int32.ofInt ((upto c i).foldl (spS B f n G) p).2) s' := by
  have hF6 : bF B ≤ 6 := hA0.1.1.1.2.2.2.2.2.2.2.2.2
  intro c
  induction c with
  | zero =>
    intro F i p s hT hA hq h0 hn hF hp
    obtain ⟨F, rfl⟩ : ∃ F', F = F' + 1 := ⟨F - 1, by omega⟩
    refine ⟨s, hT, hq, ?_⟩
    simp (disch := omega) only [f_X10_spare_L50, upto, List.foldl_nil, n_i8, n_i16, n_0, n_31, n_add, n_sub, n_mul, n_neg, n_div, n_rem, n_le_t, n_le_f, n_lt_t, n_lt_f, n_eq_t, n_eq_f, n_cl, n_gd, n_gdt, n_nz, Int.reduceToNat, Int.reduceAdd, Int.reduceSub, Int.reduceMul, Int.reduceNeg, Int.reduceLT, Int.reduceLE, Int.reduceEq, Int.reduceDiv, Int.reduceMod, Nat.reduceAdd, Nat.reduceMul, ↓reduceIte]
  | succ c ih =>
    intro F i p s hT hA hq h0 hn hF hp
    obtain ⟨F, rfl⟩ : ∃ F', F = F' + 1 := ⟨F - 1, by omega⟩
    obtain ⟨s1, q1, q2, q3⟩ := m_chooses hA (w := i) (by omega) (by omega)
    have hA1 := MA_Sd hA q2
    have hT1 := TH_fd hT q2.fd
    obtain ⟨s2, q4, q5, q6⟩ := m_dayT hA1 (MH_TH hH0 hT1) hV q3 (okA_chz hA.1.1.1.2.2.2.2.2.2.1 (by omega)) (by omega) hT1.1
    have hT2 := TH_fd hT1 q5
    have hq2 : s2.1 65 78 = s0.1 65 78 := (q5.1 65 78 (by omega) (by omega) (by omega)).trans ((q2.1 65 78 (by omega) (by omega)).trans hq)
    obtain ⟨s3, q7, q8, q9⟩ := m_daysGo q6 (MH_TH hH0 hT2) hD hV (ds := -1) (db := 0) (N := n - 1) ⟨hq2.trans h78, Or.inl rfl⟩ hT2.1 (by omega) (by omega) (by omega) (by omega) (Or.inl rfl) (by rw [dayG_d]; omega)
    have hT3 := TH_fd hT2 q8
    obtain ⟨s4, t1, t2, t3, t4, t5, t6⟩ := m_triesAnew hT3 hA0
    have v := q9.2.2.2.2.2 f f1 f2
    have hvb := q9.2.1.2.2.2 f f1 f2
    have hq4 : s4.1 65 78 = s0.1 65 78 := (t4 65 78 (by omega)).trans ((q8.1 65 78 (by omega) (by omega) (by omega)).trans hq2)
    simp only [upto, List.foldl_cons]
    have hst : spS B f n G p i = if p.2 < gb (daysN B (-1) 0 (n - 1).toNat (dayG B G (chz B G i))) f then (i, gb (daysN B (-1) 0 (n - 1).toNat (dayG B G (chz B G i))) f) else p := rfl
    generalize gb (daysN B (-1) 0 (n - 1).toNat (dayG B G (chz B G i))) f = z at *
    by_cases e : p.2 < z
    · rw [if_pos e] at hst
      rw [hst]
      obtain ⟨s5, w1, w2, w3⟩ := ih F (i + 1) (i, z) s4 t2 t3 hq4 (by omega) (by omega) (by omega) (by show -1 ≤ i ∧ i ≤ 1000 ∧ -1 ≤ z ∧ z ≤ 999; omega)
      refine ⟨s5, w1, w2, ?_⟩
      rw [← w3]
      simp (disch := omega) only [f_X10_spare_L50, q1, q4, q7, t1, v, n_i8, n_i16, n_0, n_31, n_add, n_sub, n_mul, n_neg, n_div, n_rem, n_le_t, n_le_f, n_lt_t, n_lt_f, n_eq_t, n_eq_f, n_cl, n_gd, n_gdt, n_nz, Int.reduceToNat, Int.reduceAdd, Int.reduceSub, Int.reduceMul, Int.reduceNeg, Int.reduceLT, Int.reduceLE, Int.reduceEq, Int.reduceDiv, Int.reduceMod, Nat.reduceAdd, Nat.reduceMul, ↓reduceIte, u_eq, u_no, u_nk, u_ek, u_2, u_3, j_1, j_3, j_eq, j_no, j_nk, ltd, bnd]
    · rw [if_neg e] at hst
      rw [hst]
      obtain ⟨s5, w1, w2, w3⟩ := ih F (i + 1) p s4 t2 t3 hq4 (by omega) (by omega) (by omega) hp
      refine ⟨s5, w1, w2, ?_⟩
      rw [← w3]
      simp (disch := omega) only [f_X10_spare_L50, q1, q4, q7, t1, v, n_i8, n_i16, n_0, n_31, n_add, n_sub, n_mul, n_neg, n_div, n_rem, n_le_t, n_le_f, n_lt_t, n_lt_f, n_eq_t, n_eq_f, n_cl, n_gd, n_gdt, n_nz, Int.reduceToNat, Int.reduceAdd, Int.reduceSub, Int.reduceMul, Int.reduceNeg, Int.reduceLT, Int.reduceLE, Int.reduceEq, Int.reduceDiv, Int.reduceMod, Nat.reduceAdd, Nat.reduceMul, ↓reduceIte, u_eq, u_no, u_nk, u_ek, u_2, u_3, j_1, j_3, j_eq, j_no, j_nk, ltd, bnd]
def spR (B : Brd) (f n : Int) (G : Gam) (N : Int) : Int × Int := (upto N.toNat 0).foldl (spS B f n G) (-1, -1)
def aSpare (B : Brd) (f n : Int) (G : Gam) (w N : Int) : Int := if w = 0 then (spR B f n G N).1 else (spR B f n G N).2
theorem m_spare {B : Brd} {G : Gam} {brd : Bool} {s : ST} (hR : RS B G brd s) {f n w : Int} (f1 : -2147483648 ≤ f) (f2 : f ≤ 2147483647) (n1 : -2147483648 ≤ n) (n2 : n ≤ 2147483647) (w1 : -2147483648 ≤ w) (w2 : w ≤ 2147483647) : ((0 ≤ f ∧ f < bF B) ∧ ahd G brd n 1 6 ∧ (0 ≤ w ∧ w ≤ 1) → ∃ s', f_X10_spare (Int32.ofInt f) (Int32.ofInt n) (Int32.ofInt w) s = some (Int32.ofInt (aSpare B f n G w (mvN B G)), s') ∧ QF s s') ∧ (¬ ((0 ≤ f ∧ f < bF B) ∧ ahd G brd n 1 6 ∧ (0 ≤ w ∧ w ≤ 1)) → f_X10_spare (Int32.ofInt f) (Int32.ofInt n) (Int32.ofInt w) s = some (Int32.ofInt (-1), s)) := by
  have hi := m_isAheadR hR n1 n2 (a := 1) (b := 6) (by omega) (by omega) (by omega) (by omega)
  have hj := m_isField hR.1.1 f1 f2
  have hk := m_isIn (s := s) (v := w) (a := 0) (b := 1) (by omega) (by omega) (by omega) (by omega) (by omega) (by omega)
  have hN := mvN_b (G := G) hR.1.1.1
  have hmv := m_movesNow hR.1.1
  generalize mvN B G = N at hN hmv ⊢
  constructor
  · intro ⟨c2, c1, c3⟩
    have hi := hi.1 c1
    rw [decide_eq_true c2] at hj
    rw [decide_eq_true c3] at hk
    have e1 := c1.2.1
    have e2 := c1.2.2
    obtain ⟨s1, q1, q2, q3, q4, q5, q6, -⟩ := m_think hR
    obtain ⟨s2, r1, r2, r3⟩ := m_spare_L hR.1.1 hR.1.2.1 hR.1.2.2 (hR.2.2.2.2.1 c1.1).1 hR.2.2.2.1 (w := Int32.ofInt w) c2.1 c2.2 e1.1 e1.2 e2 hN.1 hN.2 f_X10_spare_j113 N.toNat fuel 0 (-1, -1) s1 q2 q3 q6 (by omega) (by omega) (by unfold fuel; omega) (by show (-1 : Int) ≤ -1 ∧ (-1 : Int) ≤ 1000 ∧ (-1 : Int) ≤ -1 ∧ (-1 : Int) ≤ 999; omega)
    obtain ⟨s3, t1, t2, -⟩ := m_takesBack r1 hR.2.2.1 r2
    refine ⟨s3, ?_, t2⟩
    have r3 : f_X10_spare_L50 f_X10_spare_j113 fuel (Int32.ofInt f) (Int32.ofInt n) (Int32.ofInt w) (Int32.ofInt (-1)) (Int32.ofInt (-1)) (Int32.ofInt N) (Int32.ofInt 0) s1 = f_X10_spare_j113 (Int32.ofInt w) (Int32.ofInt (spR B f n G N).1) (Int32.ofInt (spR B f n G N).2) s2 := r3
    have hw : w = 0 ∨ w = 1 := by omega
    rcases hw with rfl | rfl
    · simp (disch := omega) only [f_X10_spare, f_X10_spare_j113, aSpare, hi, hj, hk, hmv, q1, r3, t1, bI_t, n_i8, n_i16, n_0, n_31, n_add, n_sub, n_mul, n_neg, n_div, n_rem, n_le_t, n_le_f, n_lt_t, n_lt_f, n_eq_t, n_eq_f, n_cl, n_gd, n_gdt, n_nz, Int.reduceToNat, Int.reduceAdd, Int.reduceSub, Int.reduceMul, Int.reduceNeg, Int.reduceLT, Int.reduceLE, Int.reduceEq, Int.reduceDiv, Int.reduceMod, Nat.reduceAdd, Nat.reduceMul, ↓reduceIte, l_0, l_1, l_00, l_i, l_j, l_add, l_sub, l_mul, l_gt, l_ceq, l_clt, l_nz, u_eq, u_no, u_nk, u_ek, u_2, u_3, j_1, j_3, j_eq, j_no, j_nk, ltd, bnd]
    · simp (disch := omega) only [f_X10_spare, f_X10_spare_j113, aSpare, hi, hj, hk, hmv, q1, r3, t1, bI_t, n_i8, n_i16, n_0, n_31, n_add, n_sub, n_mul, n_neg, n_div, n_rem, n_le_t, n_le_f, n_lt_t, n_lt_f, n_eq_t, n_eq_f, n_cl, n_gd, n_gdt, n_nz, Int.reduceToNat, Int.reduceAdd, Int.reduceSub, Int.reduceMul, Int.reduceNeg, Int.reduceLT, Int.reduceLE, Int.reduceEq, Int.reduceDiv, Int.reduceMod, Nat.reduceAdd, Nat.reduceMul, ↓reduceIte, l_0, l_1, l_00, l_i, l_j, l_add, l_sub, l_mul, l_gt, l_ceq, l_clt, l_nz, u_eq, u_no, u_nk, u_ek, u_2, u_3, j_1, j_3, j_eq, j_no, j_nk, ltd, bnd]
  · intro c
    by_cases c1 : 0 ≤ f ∧ f < bF B
    · rw [decide_eq_true c1] at hj
      by_cases c2 : ahd G brd n 1 6
      · have hi := hi.1 c2
        rw [decide_eq_false (fun d => c ⟨c1, c2, d⟩)] at hk
        simp (disch := omega) only [f_X10_spare, hi, hj, hk, bI_t, bI_f, n_i8, n_i16, n_0, n_31, n_add, n_sub, n_mul, n_neg, n_div, n_rem, n_le_t, n_le_f, n_lt_t, n_lt_f, n_eq_t, n_eq_f, n_cl, n_gd, n_gdt, n_nz, Int.reduceToNat, Int.reduceAdd, Int.reduceSub, Int.reduceMul, Int.reduceNeg, Int.reduceLT, Int.reduceLE, Int.reduceEq, Int.reduceDiv, Int.reduceMod, Nat.reduceAdd, Nat.reduceMul, ↓reduceIte, l_0, l_1, l_00, l_i, l_j, l_add, l_sub, l_mul, l_gt, l_ceq, l_clt, l_nz, u_eq, u_no, u_nk, u_ek, u_2, u_3, j_1, j_3, j_eq, j_no, j_nk, ltd, bnd]
      · have hi := hi.2 c2
        simp (disch := omega) only [f_X10_spare, hi, hj, bI_t, n_i8, n_i16, n_0, n_31, n_add, n_sub, n_mul, n_neg, n_div, n_rem, n_le_t, n_le_f, n_lt_t, n_lt_f, n_eq_t, n_eq_f, n_cl, n_gd, n_gdt, n_nz, Int.reduceToNat, Int.reduceAdd, Int.reduceSub, Int.reduceMul, Int.reduceNeg, Int.reduceLT, Int.reduceLE, Int.reduceEq, Int.reduceDiv, Int.reduceMod, Nat.reduceAdd, Nat.reduceMul, ↓reduceIte, l_0, l_1, l_00, l_i, l_j, l_add, l_sub, l_mul, l_gt, l_ceq, l_clt, l_nz, u_eq, u_no, u_nk, u_ek, u_2, u_3, j_1, j_3, j_eq, j_no, j_nk, ltd, bnd]
    · rw [decide_eq_false c1] at hj
      simp (disch := omega) only [f_X10_spare, hj, bI_f, n_i8, n_i16, n_0, n_31, n_add, n_sub, n_mul, n_neg, n_div, n_rem, n_le_t, n_le_f, n_lt_t, n_lt_f, n_eq_t, n_eq_f, n_cl, n_gd, n_gdt, n_nz, Int.reduceToNat, Int.reduceAdd, Int.reduceSub, Int.reduceMul, Int.reduceNeg, Int.reduceLT, Int.reduceLE, Int.reduceEq, Int.reduceDiv, Int.reduceMod, Nat.reduceAdd, Nat.reduceMul, ↓reduceIte, l_0, l_1, l_00, l_i, l_j, l_add, l_sub, l_mul, l_gt, l_ceq, l_clt, l_nz, u_eq, u_no, u_nk, u_ek, u_2, u_3, j_1, j_3, j_eq, j_no, j_nk, ltd, bnd]
/-- the rows that are seen -/
def RW (B : Brd) (rn : Int) (rf rv : Int → Int) (s : ST) : Prop := s.1 65 80 = Int32.ofInt rn ∧ (0 ≤ rn ∧ rn ≤ 16) ∧ ∀ i : Int, 0 ≤ i → i < rn → (0 ≤ rf i ∧ rf i < bF B) ∧ s.1 120 (3 * i).toNat = Int32.ofInt (rf i) ∧ ∃ a b : Int, (0 ≤ a ∧ a ≤ 255) ∧ (0 ≤ b ∧ b ≤ 255) ∧ rv i = 256 * a + b ∧ s.1 120 (3 * i + 1).toNat = Int32.ofInt a ∧ s.1 120 (3 * i + 2).toNat = Int32.ofInt b
theorem RW_fr {B : Brd} {rn : Int} {rf rv : Int → Int} {s s' : ST} (h : RW B rn rf rv s) (h1 : s'.1 65 80 = s.1 65 80) (h2 : ∀ k : Nat, s'.1 120 k = s.1 120 k) : RW B rn rf rv s' := by
  obtain ⟨a, b, c⟩ := h
  refine ⟨h1.trans a, b, fun i i1 i2 => ?_⟩
  obtain ⟨c1, c2, x, y, c3, c4, c5, c6, c7⟩ := c i i1 i2
  exact ⟨c1, (h2 _).trans c2, x, y, c3, c4, c5, (h2 _).trans c6, (h2 _).trans c7⟩
def asS (G : Gam) (rf rv : Int → Int) (i : Int) : Bool := decide (gb G (rf i) = rv i)
def asSeen (G : Gam) (rn : Int) (rf rv : Int → Int) : Bool := (upto rn.toNat 0).all (asS G rf rv)
theorem m_asSeen_L {B : Brd} {G : Gam} {s : ST} (h : MA B G s) {rn : Int} {rf rv : Int → Int} (hr : RW B rn rf rv s) : ∀ (n F : Nat) (i : Int), 0 ≤ i → (n : Int) = rn - i → n < F → f_X10_isAsSeen_L2 F (Int32.ofInt i) s = some (bI ((upto n i).all (asS G rf rv)), s) := by
  obtain ⟨g1, g2, g3⟩ := hr
  have hF6 : bF B ≤ 6 := h.1.1.1.2.2.2.2.2.2.2.2.2
  intro n
  induction n with
  | zero =>
    intro F i h0 hn hF
    obtain ⟨F, rfl⟩ : ∃ F', F = F' + 1 := ⟨F - 1, by omega⟩
    simp (disch := omega) only [f_X10_isAsSeen_L2, g1, upto, List.all_nil, bI_t, n_i8, n_i16, n_0, n_31, n_add, n_sub, n_mul, n_neg, n_div, n_rem, n_le_t, n_le_f, n_lt_t, n_lt_f, n_eq_t, n_eq_f, n_cl, n_gd, n_gdt, n_nz, Int.reduceToNat, Int.reduceAdd, Int.reduceSub, Int.reduceMul, Int.reduceNeg, Int.reduceLT, Int.reduceLE, Int.reduceEq, Int.reduceDiv, Int.reduceMod, Nat.reduceAdd, Nat.reduceMul, ↓reduceIte]
  | succ n ih =>
    intro F i h0 hn hF
    obtain ⟨F, rfl⟩ : ∃ F', F = F' + 1 := ⟨F - 1, by omega⟩
    obtain ⟨c1, c2, a, b, c3, c4, c5, c6, c7⟩ := g3 i h0 (by omega)
    have v := h.2.2.2.2.2 (rf i) c1.1 c1.2
    have vb := h.2.1.2.2.2 (rf i) c1.1 c1.2
    have ih := ih F (i + 1) (by omega) (by omega) (by omega)
    simp only [upto, List.all_cons]
    by_cases e : gb G (rf i) = rv i
    · have e' : asS G rf rv i = true := decide_eq_true e
      rw [e', Bool.true_and]
      rw [c5] at e
      simp (disch := omega) only [f_X10_isAsSeen_L2, g1, c2, c6, c7, v, ih, n_i8, n_i16, n_0, n_31, n_add, n_sub, n_mul, n_neg, n_div, n_rem, n_le_t, n_le_f, n_lt_t, n_lt_f, n_eq_t, n_eq_f, n_cl, n_gd, n_gdt, n_nz, Int.reduceToNat, Int.reduceAdd, Int.reduceSub, Int.reduceMul, Int.reduceNeg, Int.reduceLT, Int.reduceLE, Int.reduceEq, Int.reduceDiv, Int.reduceMod, Nat.reduceAdd, Nat.reduceMul, ↓reduceIte, u_eq, u_no, u_nk, u_ek, u_2, u_3, j_1, j_3, j_eq, j_no, j_nk, ltd, bnd]
    · have e' : asS G rf rv i = false := decide_eq_false e
      rw [e', Bool.false_and]
      rw [c5] at e
      simp (disch := omega) only [f_X10_isAsSeen_L2, g1, c2, c6, c7, v, bI_f, n_i8, n_i16, n_0, n_31, n_add, n_sub, n_mul, n_neg, n_div, n_rem, n_le_t, n_le_f, n_lt_t, n_lt_f, n_eq_t, n_eq_f, n_cl, n_gd, n_gdt, n_nz, Int.reduceToNat, Int.reduceAdd, Int.reduceSub, Int.reduceMul, Int.reduceNeg, Int.reduceLT, Int.reduceLE, Int.reduceEq, Int.reduceDiv, Int.reduceMod, Nat.reduceAdd, Nat.reduceMul, ↓reduceIte, u_eq, u_no, u_nk, u_ek, u_2, u_3, j_1, j_3, j_eq, j_no, j_nk, ltd, bnd]
theorem m_asSeen {B : Brd} {G : Gam} {s : ST} (h : MA B G s) {rn : Int} {rf rv : Int → Int} (hr : RW B rn rf rv s) : f_X10_isAsSeen s = some (bI (asSeen G rn rf rv), s) := by
  have := hr.2.1
  exact m_asSeen_L h hr rn.toNat fuel 0 (by omega) (by omega) (by unfold fuel; omega)
def plS (B : Brd) (rn : Int) (rf rv : Int → Int) (G : Gam) (p : Int × Int × Int) (k : Int) : Int × Int × Int := if asSeen (dayG B G (chz B G k)) rn rf rv = true then (p.1 + 1, if p.2.1 = -1 then k else p.2.1, k) else p
theorem m_played_L {B : Brd} {G : Gam} {s0 : ST} (hA0 : MA B G s0) (hH0 : MH B s0) (hV : Hv B) {rn : Int} {rf rv : Int → Int} (hr : RW B rn rf rv s0) {w N : Int} (hN : N ≤ 200) (hd : gd_ G ≤ 999) (K : Int32 → Int32 → Int32 → Int32 → ST → Option (Int32 × ST)) : ∀ (c F : Nat) (i : Int) (p : Int × Int × Int) (s : ST), TH s0 s → MA B G s → s.1 65 78 = s0.1 65 78 → 0 ≤ i → (c : Int) = N - i → c < F → (-1 ≤ p.2.1 ∧ p.2.1 ≤ 1000) → ∃ s', TH s0 s' ∧ s'.1 65 78 = s0.1 65 78 ∧ f_X10_played_L45 K F (Int32.ofInt w) (Int32.ofInt p.1) (Int32.ofInt p.2.1) (Int32.ofInt p.2.2) (Int32.ofInt N) (Int32.ofInt i) s = K (Int32.ofInt w) (Int32.ofInt ((upto c i).foldl (plS B rn rf rv G) p).1) (Int32.ofInt ((upto c i).foldl (plS B rn rf rv G) p).2.1) (Int32.ofInt ((upto c i).foldl (plS B rn rf rv G) p).2.2) s' := by
  intro c
  induction c with
  | zero =>
    intro F i p s hT hA hq h0 hn hF hp
    obtain ⟨F, rfl⟩ : ∃ F', F = F' + 1 := ⟨F - 1, by omega⟩
    refine ⟨s, hT, hq, ?_⟩
    simp (disch := omega) only [f_X10_played_L45, upto, List.foldl_nil, n_i8, n_i16, n_0, n_31, n_add, n_sub, n_mul, n_neg, n_div, n_rem, n_le_t, n_le_f, n_lt_t, n_lt_f, n_eq_t, n_eq_f, n_cl, n_gd, n_gdt, n_nz, Int.reduceToNat, Int.reduceAdd, Int.reduceSub, Int.reduceMul, Int.reduceNeg, Int.reduceLT, Int.reduceLE, Int.reduceEq, Int.reduceDiv, Int.reduceMod, Nat.reduceAdd, Nat.reduceMul, ↓reduceIte]
  | succ c ih =>
    intro F i p s hT hA hq h0 hn hF hp
    obtain ⟨F, rfl⟩ : ∃ F', F = F' + 1 := ⟨F - 1, by omega⟩
    obtain ⟨s1, q1, q2, q3⟩ := m_chooses hA (w := i) (by omega) (by omega)
    have hA1 := MA_Sd hA q2
    have hT1 := TH_fd hT q2.fd
    obtain ⟨s2, q4, q5, q6⟩ := m_dayT hA1 (MH_TH hH0 hT1) hV q3 (okA_chz hA.1.1.1.2.2.2.2.2.2.1 (by omega)) hd hT1.1
    have hT2 := TH_fd hT1 q5
    have hq2 : s2.1 65 78 = s0.1 65 78 := (q5.1 65 78 (by omega) (by omega) (by omega)).trans ((q2.1 65 78 (by omega) (by omega)).trans hq)
    have hr2 : RW B rn rf rv s2 := RW_fr hr (hT2.2.2.1 65 80 (by unfold QP; omega) (by omega) (by omega)) (fun k => hT2.2.2.1 120 k (by unfold QP; omega) (by omega) (by omega))
    have v := m_asSeen q6 hr2
    obtain ⟨s4, t1, t2, t3, t4, t5, t6⟩ := m_triesAnew hT2 hA0
    have hq4 : s4.1 65 78 = s0.1 65 78 := (t4 65 78 (by omega)).trans hq2
    simp only [upto, List.foldl_cons]
    have hst : plS B rn rf rv G p i = if asSeen (dayG B G (chz B G i)) rn rf rv = true then (p.1 + 1, if p.2.1 = -1 then i else p.2.1, i) else p := rfl
    cases e : asSeen (dayG B G (chz B G i)) rn rf rv with
    | true =>
      rw [e] at v
      rw [e, if_pos rfl] at hst
      rw [hst]
      by_cases e2 : p.2.1 = -1
      · rw [if_pos e2]
        obtain ⟨s5, w1, w2, w3⟩ := ih F (i + 1) (p.1 + 1, i, i) s4 t2 t3 hq4 (by omega) (by omega) (by omega) (by show -1 ≤ i ∧ i ≤ 1000; omega)
        refine ⟨s5, w1, w2, ?_⟩
        rw [← w3]
        simp (disch := omega) only [f_X10_played_L45, q1, q4, v, t1, e2, bI_t, n_i8, n_i16, n_0, n_31, n_add, n_sub, n_mul, n_neg, n_div, n_rem, n_le_t, n_le_f, n_lt_t, n_lt_f, n_eq_t, n_eq_f, n_cl, n_gd, n_gdt, n_nz, Int.reduceToNat, Int.reduceAdd, Int.reduceSub, Int.reduceMul, Int.reduceNeg, Int.reduceLT, Int.reduceLE, Int.reduceEq, Int.reduceDiv, Int.reduceMod, Nat.reduceAdd, Nat.reduceMul, ↓reduceIte, u_eq, u_no, u_nk, u_ek, u_2, u_3, j_1, j_3, j_eq, j_no, j_nk, ltd, bnd]
      · rw [if_neg e2]
        obtain ⟨s5, w1, w2, w3⟩ := ih F (i + 1) (p.1 + 1, p.2.1, i) s4 t2 t3 hq4 (by omega) (by omega) (by omega) hp
        refine ⟨s5, w1, w2, ?_⟩
        rw [← w3]
        simp (disch := omega) only [f_X10_played_L45, q1, q4, v, t1, bI_t, n_i8, n_i16, n_0, n_31, n_add, n_sub, n_mul, n_neg, n_div, n_rem, n_le_t, n_le_f, n_lt_t, n_lt_f, n_eq_t, n_eq_f, n_cl, n_gd, n_gdt, n_nz, Int.reduceToNat, Int.reduceAdd, Int.reduceSub, Int.reduceMul, Int.reduceNeg, Int.reduceLT, Int.reduceLE, Int.reduceEq, Int.reduceDiv, Int.reduceMod, Nat.reduceAdd, Nat.reduceMul, ↓reduceIte, u_eq, u_no, u_nk, u_ek, u_2, u_3, j_1, j_3, j_eq, j_no, j_nk, ltd, bnd]
    | false =>
      rw [e] at v
      rw [e, if_neg (by decide)] at hst
      rw [hst]
      obtain ⟨s5, w1, w2, w3⟩ := ih F (i + 1) p s4 t2 t3 hq4 (by omega) (by omega) (by omega) hp
      refine ⟨s5, w1, w2, ?_⟩
      rw [← w3]
      simp (disch := omega) only [f_X10_played_L45, q1, q4, v, t1, bI_f, n_i8, n_i16, n_0, n_31, n_add, n_sub, n_mul, n_neg, n_div, n_rem, n_le_t, n_le_f, n_lt_t, n_lt_f, n_eq_t, n_eq_f, n_cl, n_gd, n_gdt, n_nz, Int.reduceToNat, Int.reduceAdd, Int.reduceSub, Int.reduceMul, Int.reduceNeg, Int.reduceLT, Int.reduceLE, Int.reduceEq, Int.reduceDiv, Int.reduceMod, Nat.reduceAdd, Nat.reduceMul, ↓reduceIte, u_eq, u_no, u_nk, u_ek, u_2, u_3, j_1, j_3, j_eq, j_no, j_nk, ltd, bnd]
def plR (B : Brd) (rn : Int) (rf rv : Int → Int) (G : Gam) (N : Int) : Int × Int × Int := (upto N.toNat 0).foldl (plS B rn rf rv G) (0, -1, -1)
def aPlayed (B : Brd) (rn : Int) (rf rv : Int → Int) (G : Gam) (w N : Int) : Int := if w = 0 then (plR B rn rf rv G N).1 else if w = 1 then (plR B rn rf rv G N).2.1 else (plR B rn rf rv G N).2.2
theorem mvN_no {B : Brd} {G : Gam} (h : bM B = 0) : mvN B G = 0 := by
  unfold mvN mens
  split
  · rfl
  · rw [h]; rfl
theorem m_played {B : Brd} {G : Gam} {brd : Bool} {s : ST} (hR : RS B G brd s) {rn : Int} {rf rv : Int → Int} (hr : RW B rn rf rv s) {w : Int} (w1 : -2147483648 ≤ w) (w2 : w ≤ 2147483647) : ((0 ≤ w ∧ w ≤ 2) → ∃ s', f_X10_played (Int32.ofInt w) s = some (Int32.ofInt (aPlayed B rn rf rv G w (mvN B G)), s') ∧ QF s s') ∧ (¬ (0 ≤ w ∧ w ≤ 2) → f_X10_played (Int32.ofInt w) s = some (Int32.ofInt (-1), s)) := by
  have hk := m_isIn (s := s) (v := w) (a := 0) (b := 2) (by omega) (by omega) (by omega) (by omega) (by omega) (by omega)
  have hN := mvN_b (G := G) hR.1.1.1
  have hb := hR.2.1
  have hmv := m_movesNow hR.1.1
  have hno : brd = false → mvN B G = 0 := fun c => by rw [c] at hR; exact mvN_no (G := G) (RS_no hR).2.2.2.1
  generalize mvN B G = N at hN hmv hno ⊢
  constructor
  · intro c3
    rw [decide_eq_true c3] at hk
    obtain ⟨s1, q1, q2, q3, q4, q5, q6, -⟩ := m_think hR
    obtain ⟨s2, r1, r2, r3⟩ := m_played_L hR.1.1 hR.1.2.1 hR.1.2.2 hr (w := w) hN.2 hR.2.2.2.2.2.2 f_X10_played_j101 N.toNat fuel 0 (0, -1, -1) s1 q2 q3 q6 (by omega) (by omega) (by unfold fuel; omega) (by show (-1 : Int) ≤ -1 ∧ (-1 : Int) ≤ 1000; omega)
    obtain ⟨s3, t1, t2, -⟩ := m_takesBack r1 hR.2.2.1 r2
    refine ⟨s3, ?_, t2⟩
    have r3 : f_X10_played_L45 f_X10_played_j101 fuel (Int32.ofInt w) (Int32.ofInt 0) (Int32.ofInt (-1)) (Int32.ofInt (-1)) (Int32.ofInt N) (Int32.ofInt 0) s1 = f_X10_played_j101 (Int32.ofInt w) (Int32.ofInt (plR B rn rf rv G N).1) (Int32.ofInt (plR B rn rf rv G N).2.1) (Int32.ofInt (plR B rn rf rv G N).2.2) s2 := r3
    have hw : w = 0 ∨ w = 1 ∨ w = 2 := by omega
    cases brd with
    | false =>
      have e0 := hno rfl
      subst e0
      rcases hw with rfl | rfl | rfl
      · simp (disch := omega) only [f_X10_played, f_X10_played_j36, f_X10_played_j101, aPlayed, hk, hb, q1, r3, t1, bI_t, bI_f, n_i8, n_i16, n_0, n_31, n_add, n_sub, n_mul, n_neg, n_div, n_rem, n_le_t, n_le_f, n_lt_t, n_lt_f, n_eq_t, n_eq_f, n_cl, n_gd, n_gdt, n_nz, Int.reduceToNat, Int.reduceAdd, Int.reduceSub, Int.reduceMul, Int.reduceNeg, Int.reduceLT, Int.reduceLE, Int.reduceEq, Int.reduceDiv, Int.reduceMod, Nat.reduceAdd, Nat.reduceMul, ↓reduceIte, l_0, l_1, l_00, l_i, l_j, l_add, l_sub, l_mul, l_gt, l_ceq, l_clt, l_nz, u_eq, u_no, u_nk, u_ek, u_2, u_3, j_1, j_3, j_eq, j_no, j_nk, ltd, bnd]
      · simp (disch := omega) only [f_X10_played, f_X10_played_j36, f_X10_played_j101, aPlayed, hk, hb, q1, r3, t1, bI_t, bI_f, n_i8, n_i16, n_0, n_31, n_add, n_sub, n_mul, n_neg, n_div, n_rem, n_le_t, n_le_f, n_lt_t, n_lt_f, n_eq_t, n_eq_f, n_cl, n_gd, n_gdt, n_nz, Int.reduceToNat, Int.reduceAdd, Int.reduceSub, Int.reduceMul, Int.reduceNeg, Int.reduceLT, Int.reduceLE, Int.reduceEq, Int.reduceDiv, Int.reduceMod, Nat.reduceAdd, Nat.reduceMul, ↓reduceIte, l_0, l_1, l_00, l_i, l_j, l_add, l_sub, l_mul, l_gt, l_ceq, l_clt, l_nz, u_eq, u_no, u_nk, u_ek, u_2, u_3, j_1, j_3, j_eq, j_no, j_nk, ltd, bnd]
      · simp (disch := omega) only [f_X10_played, f_X10_played_j36, f_X10_played_j101, aPlayed, hk, hb, q1, r3, t1, bI_t, bI_f, n_i8, n_i16, n_0, n_31, n_add, n_sub, n_mul, n_neg, n_div, n_rem, n_le_t, n_le_f, n_lt_t, n_lt_f, n_eq_t, n_eq_f, n_cl, n_gd, n_gdt, n_nz, Int.reduceToNat, Int.reduceAdd, Int.reduceSub, Int.reduceMul, Int.reduceNeg, Int.reduceLT, Int.reduceLE, Int.reduceEq, Int.reduceDiv, Int.reduceMod, Nat.reduceAdd, Nat.reduceMul, ↓reduceIte, l_0, l_1, l_00, l_i, l_j, l_add, l_sub, l_mul, l_gt, l_ceq, l_clt, l_nz, u_eq, u_no, u_nk, u_ek, u_2, u_3, j_1, j_3, j_eq, j_no, j_nk, ltd, bnd]
    | true =>
      rcases hw with rfl | rfl | rfl
      · simp (disch := omega) only [f_X10_played, f_X10_played_j36, f_X10_played_j101, aPlayed, hk, hb, hmv, q1, r3, t1, bI_t, n_i8, n_i16, n_0, n_31, n_add, n_sub, n_mul, n_neg, n_div, n_rem, n_le_t, n_le_f, n_lt_t, n_lt_f, n_eq_t, n_eq_f, n_cl, n_gd, n_gdt, n_nz, Int.reduceToNat, Int.reduceAdd, Int.reduceSub, Int.reduceMul, Int.reduceNeg, Int.reduceLT, Int.reduceLE, Int.reduceEq, Int.reduceDiv, Int.reduceMod, Nat.reduceAdd, Nat.reduceMul, ↓reduceIte, l_0, l_1, l_00, l_i, l_j, l_add, l_sub, l_mul, l_gt, l_ceq, l_clt, l_nz, u_eq, u_no, u_nk, u_ek, u_2, u_3, j_1, j_3, j_eq, j_no, j_nk, ltd, bnd]
      · simp (disch := omega) only [f_X10_played, f_X10_played_j36, f_X10_played_j101, aPlayed, hk, hb, hmv, q1, r3, t1, bI_t, n_i8, n_i16, n_0, n_31, n_add, n_sub, n_mul, n_neg, n_div, n_rem, n_le_t, n_le_f, n_lt_t, n_lt_f, n_eq_t, n_eq_f, n_cl, n_gd, n_gdt, n_nz, Int.reduceToNat, Int.reduceAdd, Int.reduceSub, Int.reduceMul, Int.reduceNeg, Int.reduceLT, Int.reduceLE, Int.reduceEq, Int.reduceDiv, Int.reduceMod, Nat.reduceAdd, Nat.reduceMul, ↓reduceIte, l_0, l_1, l_00, l_i, l_j, l_add, l_sub, l_mul, l_gt, l_ceq, l_clt, l_nz, u_eq, u_no, u_nk, u_ek, u_2, u_3, j_1, j_3, j_eq, j_no, j_nk, ltd, bnd]
      · simp (disch := omega) only [f_X10_played, f_X10_played_j36, f_X10_played_j101, aPlayed, hk, hb, hmv, q1, r3, t1, bI_t, n_i8, n_i16, n_0, n_31, n_add, n_sub, n_mul, n_neg, n_div, n_rem, n_le_t, n_le_f, n_lt_t, n_lt_f, n_eq_t, n_eq_f, n_cl, n_gd, n_gdt, n_nz, Int.reduceToNat, Int.reduceAdd, Int.reduceSub, Int.reduceMul, Int.reduceNeg, Int.reduceLT, Int.reduceLE, Int.reduceEq, Int.reduceDiv, Int.reduceMod, Nat.reduceAdd, Nat.reduceMul, ↓reduceIte, l_0, l_1, l_00, l_i, l_j, l_add, l_sub, l_mul, l_gt, l_ceq, l_clt, l_nz, u_eq, u_no, u_nk, u_ek, u_2, u_3, j_1, j_3, j_eq, j_no, j_nk, ltd, bnd]
  · intro c
    rw [decide_eq_false c] at hk
    simp (disch := omega) only [f_X10_played, hk, bI_f, n_i8, n_i16, n_0, n_31, n_add, n_sub, n_mul, n_neg, n_div, n_rem, n_le_t, n_le_f, n_lt_t, n_lt_f, n_eq_t, n_eq_f, n_cl, n_gd, n_gdt, n_nz, Int.reduceToNat, Int.reduceAdd, Int.reduceSub, Int.reduceMul, Int.reduceNeg, Int.reduceLT, Int.reduceLE, Int.reduceEq, Int.reduceDiv, Int.reduceMod, Nat.reduceAdd, Nat.reduceMul, ↓reduceIte, l_0, l_1, l_00, l_i, l_j, l_add, l_sub, l_mul, l_gt, l_ceq, l_clt, l_nz, u_eq, u_no, u_nk, u_ek, u_2, u_3, j_1, j_3, j_eq, j_no, j_nk, ltd, bnd]
