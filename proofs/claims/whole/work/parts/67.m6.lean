/-! L3: does and undoes -/
def Sc (a b : Int) (s s' : ST) : Prop := (∀ o k : Nat, ¬ (114 ≤ o ∧ o ≤ 117 ∧ a ≤ (k : Int) ∧ (k : Int) ≤ b) → s'.1 o k = s.1 o k) ∧ s'.2 = s.2
theorem Sc.rf (a b : Int) (s : ST) : Sc a b s s := ⟨fun _ _ _ => rfl, rfl⟩
theorem Sc.tr {a b : Int} {s t u : ST} (h1 : Sc a b s t) (h2 : Sc a b t u) : Sc a b s u := ⟨fun o k hk => (h2.1 o k hk).trans (h1.1 o k hk), h2.2.trans h1.2⟩
theorem Sc.up {a b c d : Int} {s t : ST} (h1 : Sc a b s t) (h : c ≤ a) (h' : b ≤ d) : Sc c d s t := ⟨fun o k hk => h1.1 o k (by omega), h1.2⟩
theorem MA_fr {B : Brd} {G : Gam} {s s' : ST} (h : MA B G s) (hf : ∀ o k : Nat, (101 ≤ o ∧ o ≤ 108) ∨ (o = 112 ∧ k < 24) → s'.1 o k = s.1 o k) : MA B G s' := by
  obtain ⟨hv, hg, ⟨hMn, hMk, hMm, hMf⟩, hgn, hgm, hgf⟩ := h
  have hM : bM B ≤ 8 := hv.1.1.2.2.2.2.2.2.2.1
  have hF : bF B ≤ 6 := hv.1.1.2.2.2.2.2.2.2.2.2
  refine ⟨hv, hg, ⟨?_, ?_, ?_, ?_⟩, ?_, ?_, ?_⟩
  · unfold MBn at *
    rw [hf 101 3 (by omega), hf 101 4 (by omega), hf 101 5 (by omega), hf 103 4 (by omega), hf 103 5 (by omega), hf 103 6 (by omega), hf 103 7 (by omega), hf 108 2 (by omega), hf 108 3 (by omega)]
    exact hMn
  · intro k h1 h2
    rw [hf 104 _ (by omega), hf 104 _ (by omega), hf 104 _ (by omega), hf 104 _ (by omega)]
    exact hMk k h1 h2
  · intro k h1 h2
    rw [hf 105 _ (by omega), hf 105 _ (by omega)]
    exact hMm k h1 h2
  · intro k h1 h2
    rw [hf 107 _ (by omega), hf 107 _ (by omega)]
    exact hMf k h1 h2
  · unfold MGn at *
    rw [hf 112 0 (by omega), hf 112 1 (by omega)]
    exact hgn
  · intro k h1 h2
    rw [hf 112 _ (by omega), hf 112 _ (by omega)]
    exact hgm k h1 h2
  · intro k h1 h2
    rw [hf 112 _ (by omega)]
    exact hgf k h1 h2
theorem MA_Sc {B : Brd} {G : Gam} {a b : Int} {s s' : ST} (h : MA B G s) (hs : Sc a b s s') : MA B G s' := MA_fr h (fun o k hk => hs.1 o k (by omega))
/-- the game after a move of man m to (x, y) -/
def mvG (B : Brd) (G : Gam) (m x y : Int) : Gam := fun i j => if i = 0 then (if j = 1 then 1 - gs G else G 0 j) else if i = 1 then (if j = m then x else if j = mAt B G x y then -1 else gx G j) else if i = 2 then (if j = m then y else if j = mAt B G x y then -1 else gy G j) else G i j
theorem mvG_s (B : Brd) (G : Gam) (m x y : Int) : gs (mvG B G m x y) = 1 - gs G := rfl
theorem mvG_d (B : Brd) (G : Gam) (m x y : Int) : gd_ (mvG B G m x y) = gd_ G := rfl
theorem mvG_b (B : Brd) (G : Gam) (m x y f : Int) : gb (mvG B G m x y) f = gb G f := rfl
theorem mvG_x (B : Brd) (G : Gam) (m x y j : Int) : gx (mvG B G m x y) j = if j = m then x else if j = mAt B G x y then -1 else gx G j := rfl
theorem mvG_y (B : Brd) (G : Gam) (m x y j : Int) : gy (mvG B G m x y) j = if j = m then y else if j = mAt B G x y then -1 else gy G j := rfl
theorem mAt_u {B : Brd} {G : Gam} (h0 : 0 ≤ bM B) (hd : Gdis B G) {j x y : Int} (h1 : 0 ≤ j) (h2 : j < bM B) (hx : gx G j = x) (hy : gy G j = y) (h3 : 0 ≤ x) : mAt B G x y = j := by
  rcases mAt_spec h0 G x y with ⟨e, q⟩ | ⟨q1, q2, q3, q4⟩
  · exact absurd ⟨hx, hy⟩ (q j h1 h2)
  · exact hd _ j q1 q2 h1 h2 (by omega) (by omega) (by omega)
theorem go_spec {B : Brd} {G : Gam} {m x y : Int} (h : go B G m x y = true) : ¬ gx G m = -1 ∧ ¬ (x = gx G m ∧ y = gy G m) ∧ (mAt B G x y = -1 ∨ ¬ sd B (mAt B G x y) = sd B m) := by
  unfold go at h
  split at h
  · cases h
  · rename_i hx
    have h := Bool.and_eq_true_iff.mp h
    refine ⟨hx, ?_, ?_⟩
    · intro ⟨e1, e2⟩
      have hw := h.1
      unfold wayTo at hw
      rw [if_pos (by unfold ab; omega)] at hw
      cases hw
    · have hn := h.2
      unfold notOwn at hn
      rcases Bool.or_eq_true_iff.mp hn with e | e
      · exact Or.inl (of_decide_eq_true e)
      · exact Or.inr (of_decide_eq_true e)
theorem mvG_v {B : Brd} {G : Gam} (hB : Bv B) (hG : Gv B G) {m x y : Int} (h1 : 0 ≤ m) (h2 : m < bM B) (hx0 : 0 ≤ x) (hx1 : x < bW B) (hy0 : 0 ≤ y) (hy1 : y < bH B) : Gv B (mvG B G m x y) := by
  obtain ⟨⟨d0, d1, s0, s1⟩, hp, hd, hb⟩ := hG
  refine ⟨?_, ?_, ?_, ?_⟩
  · rw [mvG_s, mvG_d]; omega
  · intro j j1 j2
    have := hp j j1 j2
    rw [mvG_x, mvG_y]
    by_cases e1 : j = m
    · rw [if_pos e1, if_pos e1]; omega
    · rw [if_neg e1, if_neg e1]
      by_cases e2 : j = mAt B G x y
      · rw [if_pos e2, if_pos e2]; omega
      · rw [if_neg e2, if_neg e2]; exact this
  · intro i j i1 i2 j1 j2
    have hM0 : 0 ≤ bM B := hB.1.1.2.2.2.2.2.2.1
    have ui : gx G i = x → gy G i = y → mAt B G x y = i := fun e1 e2 => mAt_u (j := i) hM0 hd i1 i2 e1 e2 hx0
    have uj : gx G j = x → gy G j = y → mAt B G x y = j := fun e1 e2 => mAt_u (j := j) hM0 hd j1 j2 e1 e2 hx0
    have hij := hd i j i1 i2 j1 j2
    rw [mvG_x, mvG_x, mvG_y, mvG_y]
    by_cases e1 : i = m
    · by_cases e2 : j = m
      · omega
      · rw [if_pos e1, if_pos e1, if_neg e2, if_neg e2]
        by_cases e3 : j = mAt B G x y
        · rw [if_pos e3, if_pos e3]; omega
        · rw [if_neg e3, if_neg e3]
          intro q1 q2 q3
          exact absurd (uj q2.symm q3.symm).symm e3
    · rw [if_neg e1, if_neg e1]
      by_cases e3 : i = mAt B G x y
      · rw [if_pos e3, if_pos e3]; omega
      · rw [if_neg e3, if_neg e3]
        by_cases e2 : j = m
        · rw [if_pos e2, if_pos e2]
          intro q1 q2 q3
          exact absurd (ui q2 q3).symm e3
        · rw [if_neg e2, if_neg e2]
          by_cases e4 : j = mAt B G x y
          · rw [if_pos e4, if_pos e4]; omega
          · rw [if_neg e4, if_neg e4]; exact hij
  · intro f f1 f2
    rw [mvG_b]
    exact hb f f1 f2
/-- what a state is after does: of the cells outside only now's men and side, and the notes at L, have changed -/
def DF (L : Int) (s s' : ST) : Prop := (∀ o k : Nat, ¬ (o = 112 ∧ 1 ≤ k ∧ k ≤ 17) → ¬ (114 ≤ o ∧ o ≤ 117 ∧ (k : Int) = L) → s'.1 o k = s.1 o k) ∧ s'.2 = s.2
theorem m_does {B : Brd} {G : Gam} {s : ST} (h : MA B G s) {L m k : Int} (hL0 : 0 ≤ L) (hL4 : L ≤ 4) (h1 : 0 ≤ m) (h2 : m < bM B) (hk1 : 0 ≤ k) (hk2 : k < bW B * bH B) (hg : goK B G m k = true) : ∃ s', f_X10_does (Int32.ofInt L) (Int32.ofInt m) (Int32.ofInt k) s = some s' ∧ MA B (mvG B G m (k % bW B) (k / bW B)) s' ∧ DF L s s' ∧ (s'.1 114 L.toNat = Int32.ofInt m ∧ s'.1 115 L.toNat = Int32.ofInt (gx G m) ∧ s'.1 116 L.toNat = Int32.ofInt (gy G m) ∧ s'.1 117 L.toNat = Int32.ofInt (mAt B G (k % bW B) (k / bW B))) ∧ (∀ k' : Nat, ¬ k' = 1 → ¬ (k' : Int) = 2 + 2 * m → ¬ (k' : Int) = 2 + 2 * m + 1 → ¬ (k' : Int) = 2 + 2 * mAt B G (k % bW B) (k / bW B) → ¬ (k' : Int) = 2 + 2 * mAt B G (k % bW B) (k / bW B) + 1 → s'.1 112 k' = s.1 112 k') := by
  have hM : bM B ≤ 8 := h.1.1.1.2.2.2.2.2.2.2.1; have hM0 : 0 ≤ bM B := h.1.1.1.2.2.2.2.2.2.1
  have hW : bW B ≤ 5 := h.1.1.1.2.1; have hH : bH B ≤ 5 := h.1.1.1.2.2.2.1; have hW0 : 0 ≤ bW B := h.1.1.1.1; have hH0 : 0 ≤ bH B := h.1.1.1.2.2.1; have hWH : bW B * bH B ≤ 25 := (Int.mul_le_mul hW hH hH0 (by omega)); have hWH0 : 0 ≤ bW B * bH B := Int.mul_nonneg hW0 hH0
  have hWp : 0 < bW B := by
    rcases Int.lt_or_eq_of_le hW0 with e | e
    · exact e
    · rw [← e] at hk2; omega
  have x1 : 0 ≤ k % bW B := Int.emod_nonneg _ (by omega)
  have x2 : k % bW B < bW B := Int.emod_lt_of_pos _ hWp
  have y1 : 0 ≤ k / bW B := Int.ediv_nonneg hk1 hW0
  have y2 : k / bW B < bH B := Int.ediv_lt_of_lt_mul hWp (by rw [Int.mul_comm]; exact hk2)
  have hgs := go_spec hg
  have hR : k - k / bW B * bW B = k % bW B := n_rem k (bW B)
  generalize hX : k % bW B = x at *
  generalize hY : k / bW B = y at *
  have hm := m_manAt h (a := x) (b := y) (by omega) (by omega) (by omega) (by omega)
  have hsp := mAt_spec (B := B) hM0 G x y
  have c4 : s.1 103 4 = Int32.ofInt (bW B) := h.2.2.1.1.2.2.2.1
  have hv := mvG_v h.1 h.2.1 h1 h2 x1 x2 y1 y2
  obtain ⟨hBv, hGv, hMB, hgn, hgm, hgf⟩ := h
  have hgs' := hGv.1.2.2
  have g1 := (hgm m h1 h2).1
  have g2 := (hgm m h1 h2).2
  have hc1 := hgn.2
  have hF : bF B ≤ 6 := hBv.1.1.2.2.2.2.2.2.2.2.2
  have fin : ∀ s' : ST, DF L s s' → s'.1 112 1 = Int32.ofInt (1 - gs G) → (∀ j : Int, 0 ≤ j → j < bM B → s'.1 112 (2 + 2 * j).toNat = Int32.ofInt (gx (mvG B G m x y) j) ∧ s'.1 112 (2 + 2 * j + 1).toNat = Int32.ofInt (gy (mvG B G m x y) j)) → MA B (mvG B G m x y) s' := by
    intro s' hD hs hj
    have hA : MA B G (uI s 112 1 (s.1 112 1)) := MA_fr ⟨hBv, hGv, hMB, hgn, hgm, hgf⟩ (fun o k hk => by
      by_cases e : o = 112 ∧ k = 1
      · obtain ⟨rfl, rfl⟩ := e
        rw [u_eq]
      · by_cases e1 : o = 112
        · rw [u_nk (by omega)]
        · rw [u_no e1])
    refine ⟨hBv, hv, ?_, ⟨?_, ?_⟩, hj, ?_⟩
    · obtain ⟨q1, q2, q3, q4⟩ := hMB
      refine ⟨?_, ?_, ?_, ?_⟩
      · unfold MBn at *
        rw [hD.1 101 3 (by omega) (by omega), hD.1 101 4 (by omega) (by omega), hD.1 101 5 (by omega) (by omega), hD.1 103 4 (by omega) (by omega), hD.1 103 5 (by omega) (by omega), hD.1 103 6 (by omega) (by omega), hD.1 103 7 (by omega) (by omega), hD.1 108 2 (by omega) (by omega), hD.1 108 3 (by omega) (by omega)]
        exact q1
      · intro k h1 h2
        rw [hD.1 104 _ (by omega) (by omega), hD.1 104 _ (by omega) (by omega), hD.1 104 _ (by omega) (by omega), hD.1 104 _ (by omega) (by omega)]
        exact q2 k h1 h2
      · intro k h1 h2
        rw [hD.1 105 _ (by omega) (by omega), hD.1 105 _ (by omega) (by omega)]
        exact q3 k h1 h2
      · intro k h1 h2
        rw [hD.1 107 _ (by omega) (by omega), hD.1 107 _ (by omega) (by omega)]
        exact q4 k h1 h2
    · rw [hD.1 112 0 (by omega) (by omega)]; exact hgn.1
    · exact hs
    · intro f f1 f2
      rw [hD.1 112 _ (by omega) (by omega), mvG_b]
      exact hgf f f1 f2
  by_cases e : mAt B G x y = -1
  · refine ⟨uI (uI (uI (uI (uI (uI (uI s 114 L.toNat (Int32.ofInt m)) 115 L.toNat (Int32.ofInt (gx G m))) 116 L.toNat (Int32.ofInt (gy G m))) 117 L.toNat (Int32.ofInt (mAt B G x y))) 112 (2 + 2 * m).toNat (Int32.ofInt x)) 112 (2 + 2 * m + 1).toNat (Int32.ofInt y)) 112 1 (Int32.ofInt (1 - gs G)), ?_, ?_, ?_, ?_, ?_⟩
    · simp (disch := omega) only [f_X10_does, f_X10_does_j99, f_X10_columnOf, f_X10_rowOf, c4, hX, hY, hR, hm, g1, g2, hc1, n_i8, n_i16, n_0, n_31, n_add, n_sub, n_mul, n_neg, n_div, n_rem, n_le_t, n_le_f, n_lt_t, n_lt_f, n_eq_t, n_eq_f, n_cl, n_gd, n_gdt, n_nz, Int.reduceToNat, Int.reduceAdd, Int.reduceSub, Int.reduceMul, Int.reduceNeg, Int.reduceLT, Int.reduceLE, Int.reduceEq, Int.reduceDiv, Int.reduceMod, Nat.reduceAdd, Nat.reduceMul, ↓reduceIte, u_eq, u_no, u_nk, u_ek, u_2, u_3, j_1, j_3, j_eq, j_no, j_nk, lt_def, Option.bind_some]
    · refine fin _ ⟨?_, rfl⟩ (u_eq _ _ _ _) ?_
      · intro o k q1 q2
        by_cases e1 : o = 112
        · subst e1
          rw [u_nk (by omega), u_nk (by omega), u_nk (by omega), u_no (by omega), u_no (by omega), u_no (by omega), u_no (by omega)]
        · rw [u_no (by omega), u_no (by omega), u_no (by omega)]
          by_cases e2 : (k : Int) = L
          · rw [u_no (by omega), u_no (by omega), u_no (by omega), u_no (by omega)]
          · rw [u_nk (by omega), u_nk (by omega), u_nk (by omega), u_nk (by omega)]
      · intro j j1 j2
        rw [mvG_x, mvG_y]
        by_cases e1 : j = m
        · subst e1
          rw [if_pos rfl, if_pos rfl]
          simp (disch := omega) only [u_eq, u_no, u_nk, u_ek, u_2, u_3, j_1, j_3, j_eq, j_no, j_nk, lt_def, Option.bind_some, and_self]
        · rw [if_neg e1, if_neg e1, if_neg (by omega), if_neg (by omega)]
          simp (disch := omega) only [u_eq, u_no, u_nk, u_ek, u_2, u_3, j_1, j_3, j_eq, j_no, j_nk, lt_def, Option.bind_some, (hgm j j1 j2).1, (hgm j j1 j2).2, and_self]
    · refine ⟨?_, rfl⟩
      intro o k q1 q2
      by_cases e1 : o = 112
      · subst e1
        rw [u_nk (by omega), u_nk (by omega), u_nk (by omega), u_no (by omega), u_no (by omega), u_no (by omega), u_no (by omega)]
      · rw [u_no (by omega), u_no (by omega), u_no (by omega)]
        by_cases e2 : (k : Int) = L
        · rw [u_no (by omega), u_no (by omega), u_no (by omega), u_no (by omega)]
        · rw [u_nk (by omega), u_nk (by omega), u_nk (by omega), u_nk (by omega)]
    · simp (disch := omega) only [u_eq, u_no, u_nk, u_ek, u_2, u_3, j_1, j_3, j_eq, j_no, j_nk, lt_def, Option.bind_some, and_self]
    · intro k' q1 q2 q3 q4 q5
      rw [u_nk (by omega), u_nk (by omega), u_nk (by omega), u_no (by omega), u_no (by omega), u_no (by omega), u_no (by omega)]
  · have hne : ¬ mAt B G x y = m := by
      intro e'
      rw [e'] at hsp
      omega
    refine ⟨uI (uI (uI (uI (uI (uI (uI (uI (uI s 114 L.toNat (Int32.ofInt m)) 115 L.toNat (Int32.ofInt (gx G m))) 116 L.toNat (Int32.ofInt (gy G m))) 117 L.toNat (Int32.ofInt (mAt B G x y))) 112 (2 + 2 * mAt B G x y).toNat (Int32.ofInt (-1))) 112 (2 + 2 * mAt B G x y + 1).toNat (Int32.ofInt (-1))) 112 (2 + 2 * m).toNat (Int32.ofInt x)) 112 (2 + 2 * m + 1).toNat (Int32.ofInt y)) 112 1 (Int32.ofInt (1 - gs G)), ?_, ?_, ?_, ?_, ?_⟩
    · simp (disch := omega) only [f_X10_does, f_X10_does_j99, f_X10_columnOf, f_X10_rowOf, c4, hX, hY, hR, hm, g1, g2, hc1, n_i8, n_i16, n_0, n_31, n_add, n_sub, n_mul, n_neg, n_div, n_rem, n_le_t, n_le_f, n_lt_t, n_lt_f, n_eq_t, n_eq_f, n_cl, n_gd, n_gdt, n_nz, Int.reduceToNat, Int.reduceAdd, Int.reduceSub, Int.reduceMul, Int.reduceNeg, Int.reduceLT, Int.reduceLE, Int.reduceEq, Int.reduceDiv, Int.reduceMod, Nat.reduceAdd, Nat.reduceMul, ↓reduceIte, u_eq, u_no, u_nk, u_ek, u_2, u_3, j_1, j_3, j_eq, j_no, j_nk, lt_def, Option.bind_some]
    · refine fin _ ⟨?_, rfl⟩ (u_eq _ _ _ _) ?_
      · intro o k q1 q2
        by_cases e1 : o = 112
        · subst e1
          rw [u_nk (by omega), u_nk (by omega), u_nk (by omega), u_nk (by omega), u_nk (by omega), u_no (by omega), u_no (by omega), u_no (by omega), u_no (by omega)]
        · rw [u_no (by omega), u_no (by omega), u_no (by omega), u_no (by omega), u_no (by omega)]
          by_cases e2 : (k : Int) = L
          · rw [u_no (by omega), u_no (by omega), u_no (by omega), u_no (by omega)]
          · rw [u_nk (by omega), u_nk (by omega), u_nk (by omega), u_nk (by omega)]
      · intro j j1 j2
        rw [mvG_x, mvG_y]
        by_cases e1 : j = m
        · subst e1
          rw [if_pos rfl, if_pos rfl]
          simp (disch := omega) only [u_eq, u_no, u_nk, u_ek, u_2, u_3, j_1, j_3, j_eq, j_no, j_nk, lt_def, Option.bind_some, and_self]
        · rw [if_neg e1, if_neg e1]
          by_cases e2 : j = mAt B G x y
          · rw [if_pos e2, if_pos e2, e2]
            simp (disch := omega) only [u_eq, u_no, u_nk, u_ek, u_2, u_3, j_1, j_3, j_eq, j_no, j_nk, lt_def, Option.bind_some, and_self]
          · rw [if_neg e2, if_neg e2]
            simp (disch := omega) only [u_eq, u_no, u_nk, u_ek, u_2, u_3, j_1, j_3, j_eq, j_no, j_nk, lt_def, Option.bind_some, (hgm j j1 j2).1, (hgm j j1 j2).2, and_self]
    · refine ⟨?_, rfl⟩
      intro o k q1 q2
      by_cases e1 : o = 112
      · subst e1
        rw [u_nk (by omega), u_nk (by omega), u_nk (by omega), u_nk (by omega), u_nk (by omega), u_no (by omega), u_no (by omega), u_no (by omega), u_no (by omega)]
      · rw [u_no (by omega), u_no (by omega), u_no (by omega), u_no (by omega), u_no (by omega)]
        by_cases e2 : (k : Int) = L
        · rw [u_no (by omega), u_no (by omega), u_no (by omega), u_no (by omega)]
        · rw [u_nk (by omega), u_nk (by omega), u_nk (by omega), u_nk (by omega)]
    · simp (disch := omega) only [u_eq, u_no, u_nk, u_ek, u_2, u_3, j_1, j_3, j_eq, j_no, j_nk, lt_def, Option.bind_some, and_self]
    · intro k' q1 q2 q3 q4 q5
      rw [u_nk (by omega), u_nk (by omega), u_nk (by omega), u_nk (by omega), u_nk (by omega), u_no (by omega), u_no (by omega), u_no (by omega), u_no (by omega)]
theorem m_try {B : Brd} {G : Gam} {s : ST} (h : MA B G s) {L m k : Int} (hL0 : 0 ≤ L) (hL4 : L ≤ 4) (h1 : 0 ≤ m) (h2 : m < bM B) (hk1 : 0 ≤ k) (hk2 : k < bW B * bH B) (hg : goK B G m k = true) : ∃ s', f_X10_does (Int32.ofInt L) (Int32.ofInt m) (Int32.ofInt k) s = some s' ∧ MA B (mvG B G m (k % bW B) (k / bW B)) s' ∧ DF L s s' ∧ ∀ (s'' : ST) (a b : Int), Sc a b s' s'' → (L < a ∨ b < L) → ∀ c d : Int, c ≤ a → c ≤ L → b ≤ d → L ≤ d → ∃ s3, f_X10_undoes (Int32.ofInt L) s'' = some s3 ∧ Sc c d s s3 := by
  obtain ⟨s', hs', hA, hD, ⟨d1, d2, d3, d4⟩, hN⟩ := m_does h hL0 hL4 h1 h2 hk1 hk2 hg
  refine ⟨s', hs', hA, hD, ?_⟩
  intro s'' sa sb hS hab sc sd' hc1' hc2' hd1' hd2'
  have hM : bM B ≤ 8 := h.1.1.1.2.2.2.2.2.2.2.1; have hM0 : 0 ≤ bM B := h.1.1.1.2.2.2.2.2.2.1
  have hW : bW B ≤ 5 := h.1.1.1.2.1; have hH : bH B ≤ 5 := h.1.1.1.2.2.2.1; have hW0 : 0 ≤ bW B := h.1.1.1.1; have hH0 : 0 ≤ bH B := h.1.1.1.2.2.1; have hWH : bW B * bH B ≤ 25 := (Int.mul_le_mul hW hH hH0 (by omega)); have hWH0 : 0 ≤ bW B * bH B := Int.mul_nonneg hW0 hH0
  have hWp : 0 < bW B := by
    rcases Int.lt_or_eq_of_le hW0 with e | e
    · exact e
    · rw [← e] at hk2; omega
  have x1 : 0 ≤ k % bW B := Int.emod_nonneg _ (by omega)
  have x2 : k % bW B < bW B := Int.emod_lt_of_pos _ hWp
  have y1 : 0 ≤ k / bW B := Int.ediv_nonneg hk1 hW0
  have y2 : k / bW B < bH B := Int.ediv_lt_of_lt_mul hWp (by rw [Int.mul_comm]; exact hk2)
  have hgs := go_spec hg
  generalize hX : k % bW B = x at *
  generalize hY : k / bW B = y at *
  have hsp := mAt_spec (B := B) hM0 G x y
  have hgs' := h.2.1.1.2.2
  have k1 := hS.1 114 L.toNat (by omega)
  have k2 := hS.1 115 L.toNat (by omega)
  have k3 := hS.1 116 L.toNat (by omega)
  have k4 := hS.1 117 L.toNat (by omega)
  rw [d1] at k1
  rw [d2] at k2
  rw [d3] at k3
  rw [d4] at k4
  have k5 : s''.1 112 1 = Int32.ofInt (1 - gs G) := (hS.1 112 1 (by omega)).trans hA.2.2.2.1.2
  have n1 : s''.1 112 (2 + 2 * m).toNat = Int32.ofInt x := by
    rw [hS.1 112 _ (by omega), (hA.2.2.2.2.1 m h1 h2).1, mvG_x, if_pos rfl]
  have n2 : s''.1 112 (2 + 2 * m + 1).toNat = Int32.ofInt y := by
    rw [hS.1 112 _ (by omega), (hA.2.2.2.2.1 m h1 h2).2, mvG_y, if_pos rfl]
  have hgm := h.2.2.2.2.1
  have hsd := h.2.2.2.1.2
  have hsg : 1 - (1 - gs G) = gs G := by omega
  have z2 : s''.2 = s.2 := hS.2.trans hD.2
  by_cases e : mAt B G x y = -1
  · refine ⟨uI (uI (uI s'' 112 (2 + 2 * m).toNat (Int32.ofInt (gx G m))) 112 (2 + 2 * m + 1).toNat (Int32.ofInt (gy G m))) 112 1 (Int32.ofInt (gs G)), ?_, ?_, z2⟩
    · simp (disch := omega) only [f_X10_undoes, f_X10_undoes_j51, k1, k2, k3, k4, k5, hsg, n_i8, n_i16, n_0, n_31, n_add, n_sub, n_mul, n_neg, n_div, n_rem, n_le_t, n_le_f, n_lt_t, n_lt_f, n_eq_t, n_eq_f, n_cl, n_gd, n_gdt, n_nz, Int.reduceToNat, Int.reduceAdd, Int.reduceSub, Int.reduceMul, Int.reduceNeg, Int.reduceLT, Int.reduceLE, Int.reduceEq, Int.reduceDiv, Int.reduceMod, Nat.reduceAdd, Nat.reduceMul, ↓reduceIte, u_eq, u_no, u_nk, u_ek, u_2, u_3, j_1, j_3, j_eq, j_no, j_nk, lt_def, Option.bind_some]
    · intro o k' hk
      by_cases e1 : o = 112
      · subst e1
        by_cases e2 : k' = 1
        · subst e2; rw [u_eq]; exact hsd.symm
        · rw [u_nk e2]
          by_cases e3 : (k' : Int) = 2 + 2 * m + 1
          · have e3 : k' = (2 + 2 * m + 1).toNat := by omega
            rw [u_ek e3, e3]; exact (hgm m h1 h2).2.symm
          · rw [u_nk (by omega)]
            by_cases e4 : (k' : Int) = 2 + 2 * m
            · have e4 : k' = (2 + 2 * m).toNat := by omega
              rw [u_ek e4, e4]; exact (hgm m h1 h2).1.symm
            · rw [u_nk (by omega), hS.1 112 k' (by omega)]
              by_cases e7 : k' = 0
              · exact hD.1 112 k' (by omega) (by omega)
              · exact hN k' e2 e4 e3 (by omega) (by omega)
      · rw [u_no e1, u_no e1, u_no e1, hS.1 o k' (by omega)]
        exact hD.1 o k' (by omega) (by omega)
  · have hne : ¬ mAt B G x y = m := by
      intro e'
      rw [e'] at hsp
      omega
    refine ⟨uI (uI (uI (uI (uI s'' 112 (2 + 2 * mAt B G x y).toNat (Int32.ofInt x)) 112 (2 + 2 * mAt B G x y + 1).toNat (Int32.ofInt y)) 112 (2 + 2 * m).toNat (Int32.ofInt (gx G m))) 112 (2 + 2 * m + 1).toNat (Int32.ofInt (gy G m))) 112 1 (Int32.ofInt (gs G)), ?_, ?_, z2⟩
    · simp (disch := omega) only [f_X10_undoes, f_X10_undoes_j51, f_X10_columnOf, f_X10_rowOf, k1, k2, k3, k4, k5, n1, n2, hsg, n_i8, n_i16, n_0, n_31, n_add, n_sub, n_mul, n_neg, n_div, n_rem, n_le_t, n_le_f, n_lt_t, n_lt_f, n_eq_t, n_eq_f, n_cl, n_gd, n_gdt, n_nz, Int.reduceToNat, Int.reduceAdd, Int.reduceSub, Int.reduceMul, Int.reduceNeg, Int.reduceLT, Int.reduceLE, Int.reduceEq, Int.reduceDiv, Int.reduceMod, Nat.reduceAdd, Nat.reduceMul, ↓reduceIte, u_eq, u_no, u_nk, u_ek, u_2, u_3, j_1, j_3, j_eq, j_no, j_nk, lt_def, Option.bind_some]
    · intro o k' hk
      by_cases e1 : o = 112
      · subst e1
        by_cases e2 : k' = 1
        · subst e2; rw [u_eq]; exact hsd.symm
        · rw [u_nk e2]
          by_cases e3 : (k' : Int) = 2 + 2 * m + 1
          · have e3 : k' = (2 + 2 * m + 1).toNat := by omega
            rw [u_ek e3, e3]; exact (hgm m h1 h2).2.symm
          · rw [u_nk (by omega)]
            by_cases e4 : (k' : Int) = 2 + 2 * m
            · have e4 : k' = (2 + 2 * m).toNat := by omega
              rw [u_ek e4, e4]; exact (hgm m h1 h2).1.symm
            · rw [u_nk (by omega)]
              have hq : 0 ≤ mAt B G x y ∧ mAt B G x y < bM B ∧ gx G (mAt B G x y) = x ∧ gy G (mAt B G x y) = y := by omega
              by_cases e5 : (k' : Int) = 2 + 2 * mAt B G x y + 1
              · have e5 : k' = (2 + 2 * mAt B G x y + 1).toNat := by omega
                rw [u_ek e5, e5, (hgm _ hq.1 hq.2.1).2, hq.2.2.2]
              · rw [u_nk (by omega)]
                by_cases e6 : (k' : Int) = 2 + 2 * mAt B G x y
                · have e6 : k' = (2 + 2 * mAt B G x y).toNat := by omega
                  rw [u_ek e6, e6, (hgm _ hq.1 hq.2.1).1, hq.2.2.1]
                · rw [u_nk (by omega), hS.1 112 k' (by omega)]
                  exact hN k' e2 e4 e3 e6 e5
      · rw [u_no e1, u_no e1, u_no e1, u_no e1, u_no e1, hS.1 o k' (by omega)]
        exact hD.1 o k' (by omega) (by omega)
