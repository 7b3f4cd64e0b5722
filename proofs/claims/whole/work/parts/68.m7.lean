/-! L3: value0 to value3 of the reference -/
theorem bal_bB {B : Brd} (hB : Bv B) (G : Gam) (t : Int) : ∀ (n : Nat) (i : Int), 0 ≤ i → (n : Int) = bM B - i → -99 * n ≤ smL (bal1 B G t) (upto n i) ∧ smL (bal1 B G t) (upto n i) ≤ 99 * n := by
  intro n
  induction n with
  | zero => intro i _ _; simp [upto, smL]
  | succ n ih =>
    intro i h0 hn
    have := ih (i + 1) (by omega) (by omega)
    have hb := hB.2.2.1 i h0 (by omega)
    have hk := hB.2.1 (kd B i) hb.1 hb.2.1
    have e : -99 ≤ bal1 B G t i ∧ bal1 B G t i ≤ 99 := by unfold bal1; split; omega; split <;> omega
    simp only [upto, smL]
    omega
theorem bal_bd {B : Brd} (hB : Bv B) (G : Gam) (t : Int) : -1000 ≤ bal B G t ∧ bal B G t ≤ 1000 := by
  have h1 : 0 ≤ bM B := hB.1.1.2.2.2.2.2.2.1
  have h2 : bM B ≤ 8 := hB.1.1.2.2.2.2.2.2.2.1
  have := bal_bB hB G t (bM B).toNat 0 (by omega) (by omega)
  unfold bal mens
  omega
def mvK (B : Brd) (G : Gam) (m k : Int) : Gam := mvG B G m (k % bW B) (k / bW B)
def bst (p : Int × Bool) (v : Int) : Int × Bool := if p.2 = true ∧ v ≤ p.1 then p else (v, true)
def vstep (B : Brd) (f : Gam → Int) (G : Gam) (m : Int) (p : Int × Bool) (k : Int) : Int × Bool := if sd B m = gs G ∧ goK B G m k = true then bst p (-(f (mvK B G m k))) else p
def vK (B : Brd) (f : Gam → Int) (G : Gam) (p : Int × Bool) (m : Int) : Int × Bool := (sqs B).foldl (vstep B f G m) p
def val (B : Brd) : Nat → Gam → Int
  | 0, G => bal B G (gs G)
  | d + 1, G => if ct B G = true then bal B G (gs G) else ((mens B).foldl (vK B (val B d) G) (bal B G (gs G), false)).1
def inb (p : Int × Bool) : Prop := -1000 ≤ p.1 ∧ p.1 ≤ 1000
theorem vstep_b {B : Brd} {f : Gam → Int} (hf : ∀ G, -1000 ≤ f G ∧ f G ≤ 1000) {G : Gam} {m : Int} {p : Int × Bool} (hp : inb p) (k : Int) : inb (vstep B f G m p k) := by
  have := hf (mvK B G m k)
  unfold vstep bst inb at *
  split
  · split
    · exact hp
    · show -1000 ≤ -f (mvK B G m k) ∧ -f (mvK B G m k) ≤ 1000
      omega
  · exact hp
theorem fold_b {β : Type} {g : Int × Bool → β → Int × Bool} (hg : ∀ p b, inb p → inb (g p b)) : ∀ (l : List β) (p : Int × Bool), inb p → inb (l.foldl g p)
  | [], _, hp => hp
  | b :: l, p, hp => fold_b hg l (g p b) (hg p b hp)
theorem vK_b {B : Brd} {f : Gam → Int} (hf : ∀ G, -1000 ≤ f G ∧ f G ≤ 1000) {G : Gam} {p : Int × Bool} (hp : inb p) (m : Int) : inb (vK B f G p m) := fold_b (fun _ k h => vstep_b hf h k) _ p hp
theorem val_b {B : Brd} (hB : Bv B) : ∀ (d : Nat) (G : Gam), -1000 ≤ val B d G ∧ val B d G ≤ 1000
  | 0, G => bal_bd hB G _
  | d + 1, G => by
    unfold val
    split
    · exact bal_bd hB G _
    · exact fold_b (fun _ m h => vK_b (val_b hB d) h m) (mens B) (bal B G (gs G), false) (bal_bd hB G _)
theorem m_value0S {B : Brd} {G : Gam} {s : ST} (h : MA B G s) : ∃ s', f_X10_value0 s = some (Int32.ofInt (val B 0 G), s') ∧ Sc 1 0 s s' := ⟨s, m_value0 h, Sc.rf 1 0 s⟩

theorem m_value1_L35 {B : Brd} {G : Gam} {m : Int} (h1 : 0 ≤ m) (h2 : m < bM B) (K : Int32 → Int32 → Int32 → ST → Option (Int32 × ST)) : ∀ (n F : Nat) (i : Int) (p : Int × Bool) (s : ST), MA B G s → 0 ≤ i → (n : Int) = bW B * bH B - i → n < F → inb p → ∃ s', Sc 1 1 s s' ∧ f_X10_value1_L35 K F (Int32.ofInt p.1) (bI p.2) (Int32.ofInt m) (Int32.ofInt i) s = K (Int32.ofInt ((upto n i).foldl (vstep B (val B 0) G m) p).1) (bI ((upto n i).foldl (vstep B (val B 0) G m) p).2) (Int32.ofInt (m + 1)) s' := by
  intro n
  induction n with
  | zero =>
    intro F i p s h h0 hn hF hp
    obtain ⟨F, rfl⟩ : ∃ F', F = F' + 1 := ⟨F - 1, by omega⟩
    have hpl := m_places h
    have hW : bW B ≤ 5 := h.1.1.1.2.1; have hH : bH B ≤ 5 := h.1.1.1.2.2.2.1; have hW0 : 0 ≤ bW B := h.1.1.1.1; have hH0 : 0 ≤ bH B := h.1.1.1.2.2.1; have hWH : bW B * bH B ≤ 25 := (Int.mul_le_mul hW hH hH0 (by omega)); have hWH0 : 0 ≤ bW B * bH B := Int.mul_nonneg hW0 hH0
    refine ⟨s, Sc.rf _ _ s, ?_⟩
    simp (disch := omega) only [f_X10_value1_L35, hpl, n_i8, n_i16, n_0, n_31, n_add, n_sub, n_mul, n_neg, n_div, n_rem, n_le_t, n_le_f, n_lt_t, n_lt_f, n_eq_t, n_eq_f, n_cl, n_gd, n_gdt, n_nz, Int.reduceToNat, Int.reduceAdd, Int.reduceSub, Int.reduceMul, Int.reduceNeg, Int.reduceLT, Int.reduceLE, Int.reduceEq, Int.reduceDiv, Int.reduceMod, Nat.reduceAdd, Nat.reduceMul, ↓reduceIte, u_eq, u_no, u_nk, u_ek, u_2, u_3, j_1, j_3, j_eq, j_no, j_nk, lt_def, Option.bind_some, upto, List.foldl_nil]
  | succ n ih =>
    intro F i p s h h0 hn hF hp
    obtain ⟨F, rfl⟩ : ∃ F', F = F' + 1 := ⟨F - 1, by omega⟩
    have hpl := m_places h
    have hs := m_sideOf h h1 h2
    have hsd := m_side h
    have hgs := h.2.1.1.2.2
    have hb := h.1.2.2.1 m h1 h2
    have hW : bW B ≤ 5 := h.1.1.1.2.1; have hH : bH B ≤ 5 := h.1.1.1.2.2.2.1; have hW0 : 0 ≤ bW B := h.1.1.1.1; have hH0 : 0 ≤ bH B := h.1.1.1.2.2.1; have hWH : bW B * bH B ≤ 25 := (Int.mul_le_mul hW hH hH0 (by omega)); have hWH0 : 0 ≤ bW B * bH B := Int.mul_nonneg hW0 hH0
    have hc := m_canGo h h1 h2 h0 (show i < bW B * bH B by omega)
    have hc : f_X10_canGo (Int32.ofInt m) (Int32.ofInt i) s = some (bI (goK B G m i), s) := hc
    simp only [upto, List.foldl_cons]
    by_cases e1 : sd B m = gs G
    · cases e2 : goK B G m i with
      | true =>
        have hv : vstep B (val B 0) G m p i = bst p (-(val B 0 (mvK B G m i))) := by unfold vstep; rw [if_pos ⟨e1, e2⟩]
        obtain ⟨s1, q1, q2, -, q3⟩ := m_try h (L := 1) (by omega) (by omega) h1 h2 h0 (by omega) e2
        obtain ⟨s2, q4, q5⟩ := m_value0S q2
        obtain ⟨s3, q6, q7⟩ := q3 s2 1 0 q5 (by omega) 1 1 (by omega) (by omega) (by omega) (by omega)
        have q4 : f_X10_value0 s1 = some (Int32.ofInt (val B 0 (mvK B G m i)), s2) := q4
        have hvb := val_b h.1 0 (mvK B G m i)
        obtain ⟨s4, q8, q9⟩ := ih F (i + 1) (vstep B (val B 0) G m p i) s3 (MA_Sc h q7) (by omega) (by omega) (by omega) (vstep_b (fun G => val_b h.1 0 G) hp i)
        refine ⟨s4, q7.tr q8, ?_⟩
        rw [hv] at q9 ⊢
        rw [← q9]
        rw [e2] at hc
        unfold inb at hp
        obtain ⟨v, any⟩ := p
        cases any with
        | false =>
          have hz : bst (v, false) (-(val B 0 (mvK B G m i))) = (-(val B 0 (mvK B G m i)), true) := by unfold bst; rw [if_neg (by simp)]
          rw [hz]
          simp (disch := omega) only [f_X10_value1_L35, f_X10_value1_j104, hpl, hs, hsd, e1, hc, q1, q4, q6, bI_t, bI_f, n_i8, n_i16, n_0, n_31, n_add, n_sub, n_mul, n_neg, n_div, n_rem, n_le_t, n_le_f, n_lt_t, n_lt_f, n_eq_t, n_eq_f, n_cl, n_gd, n_gdt, n_nz, Int.reduceToNat, Int.reduceAdd, Int.reduceSub, Int.reduceMul, Int.reduceNeg, Int.reduceLT, Int.reduceLE, Int.reduceEq, Int.reduceDiv, Int.reduceMod, Nat.reduceAdd, Nat.reduceMul, ↓reduceIte, u_eq, u_no, u_nk, u_ek, u_2, u_3, j_1, j_3, j_eq, j_no, j_nk, lt_def, Option.bind_some]
        | true =>
          have hp : -1000 ≤ v ∧ v ≤ 1000 := hp
          by_cases e3 : -(val B 0 (mvK B G m i)) ≤ v
          · have hz : bst (v, true) (-(val B 0 (mvK B G m i))) = (v, true) := by unfold bst; rw [if_pos ⟨rfl, e3⟩]
            rw [hz]
            simp (disch := omega) only [f_X10_value1_L35, f_X10_value1_j104, hpl, hs, hsd, e1, hc, q1, q4, q6, bI_t, bI_f, n_i8, n_i16, n_0, n_31, n_add, n_sub, n_mul, n_neg, n_div, n_rem, n_le_t, n_le_f, n_lt_t, n_lt_f, n_eq_t, n_eq_f, n_cl, n_gd, n_gdt, n_nz, Int.reduceToNat, Int.reduceAdd, Int.reduceSub, Int.reduceMul, Int.reduceNeg, Int.reduceLT, Int.reduceLE, Int.reduceEq, Int.reduceDiv, Int.reduceMod, Nat.reduceAdd, Nat.reduceMul, ↓reduceIte, u_eq, u_no, u_nk, u_ek, u_2, u_3, j_1, j_3, j_eq, j_no, j_nk, lt_def, Option.bind_some]
          · have hz : bst (v, true) (-(val B 0 (mvK B G m i))) = (-(val B 0 (mvK B G m i)), true) := by unfold bst; rw [if_neg (fun c => e3 c.2)]
            rw [hz]
            simp (disch := omega) only [f_X10_value1_L35, f_X10_value1_j104, hpl, hs, hsd, e1, hc, q1, q4, q6, bI_t, bI_f, n_i8, n_i16, n_0, n_31, n_add, n_sub, n_mul, n_neg, n_div, n_rem, n_le_t, n_le_f, n_lt_t, n_lt_f, n_eq_t, n_eq_f, n_cl, n_gd, n_gdt, n_nz, Int.reduceToNat, Int.reduceAdd, Int.reduceSub, Int.reduceMul, Int.reduceNeg, Int.reduceLT, Int.reduceLE, Int.reduceEq, Int.reduceDiv, Int.reduceMod, Nat.reduceAdd, Nat.reduceMul, ↓reduceIte, u_eq, u_no, u_nk, u_ek, u_2, u_3, j_1, j_3, j_eq, j_no, j_nk, lt_def, Option.bind_some]
      | false =>
        have hv : vstep B (val B 0) G m p i = p := by unfold vstep; rw [if_neg (fun c => by rw [e2] at c; cases c.2)]
        obtain ⟨s4, q8, q9⟩ := ih F (i + 1) p s h (by omega) (by omega) (by omega) hp
        refine ⟨s4, q8, ?_⟩
        rw [hv, ← q9]
        rw [e2] at hc
        simp (disch := omega) only [f_X10_value1_L35, hpl, hs, hsd, e1, hc, bI_f, n_i8, n_i16, n_0, n_31, n_add, n_sub, n_mul, n_neg, n_div, n_rem, n_le_t, n_le_f, n_lt_t, n_lt_f, n_eq_t, n_eq_f, n_cl, n_gd, n_gdt, n_nz, Int.reduceToNat, Int.reduceAdd, Int.reduceSub, Int.reduceMul, Int.reduceNeg, Int.reduceLT, Int.reduceLE, Int.reduceEq, Int.reduceDiv, Int.reduceMod, Nat.reduceAdd, Nat.reduceMul, ↓reduceIte, u_eq, u_no, u_nk, u_ek, u_2, u_3, j_1, j_3, j_eq, j_no, j_nk, lt_def, Option.bind_some]
    · have hv : vstep B (val B 0) G m p i = p := by unfold vstep; rw [if_neg (fun c => e1 c.1)]
      obtain ⟨s4, q8, q9⟩ := ih F (i + 1) p s h (by omega) (by omega) (by omega) hp
      refine ⟨s4, q8, ?_⟩
      rw [hv, ← q9]
      simp (disch := omega) only [f_X10_value1_L35, hpl, hs, hsd, e1, n_i8, n_i16, n_0, n_31, n_add, n_sub, n_mul, n_neg, n_div, n_rem, n_le_t, n_le_f, n_lt_t, n_lt_f, n_eq_t, n_eq_f, n_cl, n_gd, n_gdt, n_nz, Int.reduceToNat, Int.reduceAdd, Int.reduceSub, Int.reduceMul, Int.reduceNeg, Int.reduceLT, Int.reduceLE, Int.reduceEq, Int.reduceDiv, Int.reduceMod, Nat.reduceAdd, Nat.reduceMul, ↓reduceIte, u_eq, u_no, u_nk, u_ek, u_2, u_3, j_1, j_3, j_eq, j_no, j_nk, lt_def, Option.bind_some]
theorem m_value1_L24 {B : Brd} {G : Gam} : ∀ (n F : Nat) (i : Int) (p : Int × Bool) (s : ST), MA B G s → 0 ≤ i → (n : Int) = bM B - i → n < F → inb p → ∃ s', Sc 1 1 s s' ∧ f_X10_value1_L24 F (Int32.ofInt p.1) (bI p.2) (Int32.ofInt i) s = some (Int32.ofInt ((upto n i).foldl (vK B (val B 0) G) p).1, s') := by
  intro n
  induction n with
  | zero =>
    intro F i p s h h0 hn hF hp
    obtain ⟨F, rfl⟩ : ∃ F', F = F' + 1 := ⟨F - 1, by omega⟩
    have hmm := m_manMany h
    have hM : bM B ≤ 8 := h.1.1.1.2.2.2.2.2.2.2.1; have hM0 : 0 ≤ bM B := h.1.1.1.2.2.2.2.2.2.1
    refine ⟨s, Sc.rf _ _ s, ?_⟩
    simp (disch := omega) only [f_X10_value1_L24, hmm, n_i8, n_i16, n_0, n_31, n_add, n_sub, n_mul, n_neg, n_div, n_rem, n_le_t, n_le_f, n_lt_t, n_lt_f, n_eq_t, n_eq_f, n_cl, n_gd, n_gdt, n_nz, Int.reduceToNat, Int.reduceAdd, Int.reduceSub, Int.reduceMul, Int.reduceNeg, Int.reduceLT, Int.reduceLE, Int.reduceEq, Int.reduceDiv, Int.reduceMod, Nat.reduceAdd, Nat.reduceMul, ↓reduceIte, u_eq, u_no, u_nk, u_ek, u_2, u_3, j_1, j_3, j_eq, j_no, j_nk, lt_def, Option.bind_some, upto, List.foldl_nil]
  | succ n ih =>
    intro F i p s h h0 hn hF hp
    obtain ⟨F, rfl⟩ : ∃ F', F = F' + 1 := ⟨F - 1, by omega⟩
    have hmm := m_manMany h
    have hM : bM B ≤ 8 := h.1.1.1.2.2.2.2.2.2.2.1; have hM0 : 0 ≤ bM B := h.1.1.1.2.2.2.2.2.2.1
    have hW : bW B ≤ 5 := h.1.1.1.2.1; have hH : bH B ≤ 5 := h.1.1.1.2.2.2.1; have hW0 : 0 ≤ bW B := h.1.1.1.1; have hH0 : 0 ≤ bH B := h.1.1.1.2.2.1; have hWH : bW B * bH B ≤ 25 := (Int.mul_le_mul hW hH hH0 (by omega)); have hWH0 : 0 ≤ bW B * bH B := Int.mul_nonneg hW0 hH0
    obtain ⟨s1, q1, q2⟩ := m_value1_L35 (G := G) h0 (show i < bM B by omega) (f_X10_value1_L24 F) (bW B * bH B).toNat fuel 0 p s h (by omega) (by omega) (by unfold fuel; omega) hp
    have q2 : f_X10_value1_L35 (f_X10_value1_L24 F) fuel (Int32.ofInt p.1) (bI p.2) (Int32.ofInt i) (Int32.ofInt 0) s = f_X10_value1_L24 F (Int32.ofInt (vK B (val B 0) G p i).1) (bI (vK B (val B 0) G p i).2) (Int32.ofInt (i + 1)) s1 := q2
    obtain ⟨s2, q3, q4⟩ := ih F (i + 1) (vK B (val B 0) G p i) s1 (MA_Sc h q1) (by omega) (by omega) (by omega) (vK_b (fun G => val_b h.1 0 G) hp i)
    refine ⟨s2, q1.tr q3, ?_⟩
    simp only [upto, List.foldl_cons]
    rw [← q4, ← q2]
    simp (disch := omega) only [f_X10_value1_L24, hmm, n_i8, n_i16, n_0, n_31, n_add, n_sub, n_mul, n_neg, n_div, n_rem, n_le_t, n_le_f, n_lt_t, n_lt_f, n_eq_t, n_eq_f, n_cl, n_gd, n_gdt, n_nz, Int.reduceToNat, Int.reduceAdd, Int.reduceSub, Int.reduceMul, Int.reduceNeg, Int.reduceLT, Int.reduceLE, Int.reduceEq, Int.reduceDiv, Int.reduceMod, Nat.reduceAdd, Nat.reduceMul, ↓reduceIte, u_eq, u_no, u_nk, u_ek, u_2, u_3, j_1, j_3, j_eq, j_no, j_nk, lt_def, Option.bind_some]
theorem m_value1S {B : Brd} {G : Gam} {s : ST} (h : MA B G s) : ∃ s', f_X10_value1 s = some (Int32.ofInt (val B 1 G), s') ∧ Sc 1 1 s s' := by
  have hsd := m_side h
  have hgs := h.2.1.1.2.2
  have hb := m_balanceOf h hgs.1 hgs.2
  have hct := m_isCrownTaken h
  have hM : bM B ≤ 8 := h.1.1.1.2.2.2.2.2.2.2.1; have hM0 : 0 ≤ bM B := h.1.1.1.2.2.2.2.2.2.1
  cases e : ct B G with
  | true =>
    rw [e] at hct
    refine ⟨s, ?_, Sc.rf _ _ s⟩
    have : val B 1 G = bal B G (gs G) := by show (if ct B G = true then _ else _) = _; rw [if_pos e]
    rw [this]
    simp (disch := omega) only [f_X10_value1, hsd, hb, hct, bI_t, n_i8, n_i16, n_0, n_31, n_add, n_sub, n_mul, n_neg, n_div, n_rem, n_le_t, n_le_f, n_lt_t, n_lt_f, n_eq_t, n_eq_f, n_cl, n_gd, n_gdt, n_nz, Int.reduceToNat, Int.reduceAdd, Int.reduceSub, Int.reduceMul, Int.reduceNeg, Int.reduceLT, Int.reduceLE, Int.reduceEq, Int.reduceDiv, Int.reduceMod, Nat.reduceAdd, Nat.reduceMul, ↓reduceIte, u_eq, u_no, u_nk, u_ek, u_2, u_3, j_1, j_3, j_eq, j_no, j_nk, lt_def, Option.bind_some]
  | false =>
    rw [e] at hct
    obtain ⟨s1, q1, q2⟩ := m_value1_L24 (G := G) (bM B).toNat fuel 0 (bal B G (gs G), false) s h (by omega) (by omega) (by unfold fuel; omega) (bal_bd h.1 G _)
    refine ⟨s1, ?_, q1⟩
    have : val B 1 G = ((mens B).foldl (vK B (val B 0) G) (bal B G (gs G), false)).1 := by show (if ct B G = true then _ else _) = _; rw [if_neg (by rw [e]; simp)]
    rw [this]
    simp (disch := omega) only [f_X10_value1, hsd, hb, hct, bI_f, n_i8, n_i16, n_0, n_31, n_add, n_sub, n_mul, n_neg, n_div, n_rem, n_le_t, n_le_f, n_lt_t, n_lt_f, n_eq_t, n_eq_f, n_cl, n_gd, n_gdt, n_nz, Int.reduceToNat, Int.reduceAdd, Int.reduceSub, Int.reduceMul, Int.reduceNeg, Int.reduceLT, Int.reduceLE, Int.reduceEq, Int.reduceDiv, Int.reduceMod, Nat.reduceAdd, Nat.reduceMul, ↓reduceIte, u_eq, u_no, u_nk, u_ek, u_2, u_3, j_1, j_3, j_eq, j_no, j_nk, lt_def, Option.bind_some]
    exact q2

theorem m_value2_L35 {B : Brd} {G : Gam} {m : Int} (h1 : 0 ≤ m) (h2 : m < bM B) (K : Int32 → Int32 → Int32 → ST → Option (Int32 × ST)) : ∀ (n F : Nat) (i : Int) (p : Int × Bool) (s : ST), MA B G s → 0 ≤ i → (n : Int) = bW B * bH B - i → n < F → inb p → ∃ s', Sc 1 2 s s' ∧ f_X10_value2_L35 K F (Int32.ofInt p.1) (bI p.2) (Int32.ofInt m) (Int32.ofInt i) s = K (Int32.ofInt ((upto n i).foldl (vstep B (val B 1) G m) p).1) (bI ((upto n i).foldl (vstep B (val B 1) G m) p).2) (Int32.ofInt (m + 1)) s' := by
  intro n
  induction n with
  | zero =>
    intro F i p s h h0 hn hF hp
    obtain ⟨F, rfl⟩ : ∃ F', F = F' + 1 := ⟨F - 1, by omega⟩
    have hpl := m_places h
    have hW : bW B ≤ 5 := h.1.1.1.2.1; have hH : bH B ≤ 5 := h.1.1.1.2.2.2.1; have hW0 : 0 ≤ bW B := h.1.1.1.1; have hH0 : 0 ≤ bH B := h.1.1.1.2.2.1; have hWH : bW B * bH B ≤ 25 := (Int.mul_le_mul hW hH hH0 (by omega)); have hWH0 : 0 ≤ bW B * bH B := Int.mul_nonneg hW0 hH0
    refine ⟨s, Sc.rf _ _ s, ?_⟩
    simp (disch := omega) only [f_X10_value2_L35, hpl, n_i8, n_i16, n_0, n_31, n_add, n_sub, n_mul, n_neg, n_div, n_rem, n_le_t, n_le_f, n_lt_t, n_lt_f, n_eq_t, n_eq_f, n_cl, n_gd, n_gdt, n_nz, Int.reduceToNat, Int.reduceAdd, Int.reduceSub, Int.reduceMul, Int.reduceNeg, Int.reduceLT, Int.reduceLE, Int.reduceEq, Int.reduceDiv, Int.reduceMod, Nat.reduceAdd, Nat.reduceMul, ↓reduceIte, u_eq, u_no, u_nk, u_ek, u_2, u_3, j_1, j_3, j_eq, j_no, j_nk, lt_def, Option.bind_some, upto, List.foldl_nil]
  | succ n ih =>
    intro F i p s h h0 hn hF hp
    obtain ⟨F, rfl⟩ : ∃ F', F = F' + 1 := ⟨F - 1, by omega⟩
    have hpl := m_places h
    have hs := m_sideOf h h1 h2
    have hsd := m_side h
    have hgs := h.2.1.1.2.2
    have hb := h.1.2.2.1 m h1 h2
    have hW : bW B ≤ 5 := h.1.1.1.2.1; have hH : bH B ≤ 5 := h.1.1.1.2.2.2.1; have hW0 : 0 ≤ bW B := h.1.1.1.1; have hH0 : 0 ≤ bH B := h.1.1.1.2.2.1; have hWH : bW B * bH B ≤ 25 := (Int.mul_le_mul hW hH hH0 (by omega)); have hWH0 : 0 ≤ bW B * bH B := Int.mul_nonneg hW0 hH0
    have hc := m_canGo h h1 h2 h0 (show i < bW B * bH B by omega)
    have hc : f_X10_canGo (Int32.ofInt m) (Int32.ofInt i) s = some (bI (goK B G m i), s) := hc
    simp only [upto, List.foldl_cons]
    by_cases e1 : sd B m = gs G
    · cases e2 : goK B G m i with
      | true =>
        have hv : vstep B (val B 1) G m p i = bst p (-(val B 1 (mvK B G m i))) := by unfold vstep; rw [if_pos ⟨e1, e2⟩]
        obtain ⟨s1, q1, q2, -, q3⟩ := m_try h (L := 2) (by omega) (by omega) h1 h2 h0 (by omega) e2
        obtain ⟨s2, q4, q5⟩ := m_value1S q2
        obtain ⟨s3, q6, q7⟩ := q3 s2 1 1 q5 (by omega) 1 2 (by omega) (by omega) (by omega) (by omega)
        have q4 : f_X10_value1 s1 = some (Int32.ofInt (val B 1 (mvK B G m i)), s2) := q4
        have hvb := val_b h.1 1 (mvK B G m i)
        obtain ⟨s4, q8, q9⟩ := ih F (i + 1) (vstep B (val B 1) G m p i) s3 (MA_Sc h q7) (by omega) (by omega) (by omega) (vstep_b (fun G => val_b h.1 1 G) hp i)
        refine ⟨s4, q7.tr q8, ?_⟩
        rw [hv] at q9 ⊢
        rw [← q9]
        rw [e2] at hc
        unfold inb at hp
        obtain ⟨v, any⟩ := p
        cases any with
        | false =>
          have hz : bst (v, false) (-(val B 1 (mvK B G m i))) = (-(val B 1 (mvK B G m i)), true) := by unfold bst; rw [if_neg (by simp)]
          rw [hz]
          simp (disch := omega) only [f_X10_value2_L35, f_X10_value2_j104, hpl, hs, hsd, e1, hc, q1, q4, q6, bI_t, bI_f, n_i8, n_i16, n_0, n_31, n_add, n_sub, n_mul, n_neg, n_div, n_rem, n_le_t, n_le_f, n_lt_t, n_lt_f, n_eq_t, n_eq_f, n_cl, n_gd, n_gdt, n_nz, Int.reduceToNat, Int.reduceAdd, Int.reduceSub, Int.reduceMul, Int.reduceNeg, Int.reduceLT, Int.reduceLE, Int.reduceEq, Int.reduceDiv, Int.reduceMod, Nat.reduceAdd, Nat.reduceMul, ↓reduceIte, u_eq, u_no, u_nk, u_ek, u_2, u_3, j_1, j_3, j_eq, j_no, j_nk, lt_def, Option.bind_some]
        | true =>
          have hp : -1000 ≤ v ∧ v ≤ 1000 := hp
          by_cases e3 : -(val B 1 (mvK B G m i)) ≤ v
          · have hz : bst (v, true) (-(val B 1 (mvK B G m i))) = (v, true) := by unfold bst; rw [if_pos ⟨rfl, e3⟩]
            rw [hz]
            simp (disch := omega) only [f_X10_value2_L35, f_X10_value2_j104, hpl, hs, hsd, e1, hc, q1, q4, q6, bI_t, bI_f, n_i8, n_i16, n_0, n_31, n_add, n_sub, n_mul, n_neg, n_div, n_rem, n_le_t, n_le_f, n_lt_t, n_lt_f, n_eq_t, n_eq_f, n_cl, n_gd, n_gdt, n_nz, Int.reduceToNat, Int.reduceAdd, Int.reduceSub, Int.reduceMul, Int.reduceNeg, Int.reduceLT, Int.reduceLE, Int.reduceEq, Int.reduceDiv, Int.reduceMod, Nat.reduceAdd, Nat.reduceMul, ↓reduceIte, u_eq, u_no, u_nk, u_ek, u_2, u_3, j_1, j_3, j_eq, j_no, j_nk, lt_def, Option.bind_some]
          · have hz : bst (v, true) (-(val B 1 (mvK B G m i))) = (-(val B 1 (mvK B G m i)), true) := by unfold bst; rw [if_neg (fun c => e3 c.2)]
            rw [hz]
            simp (disch := omega) only [f_X10_value2_L35, f_X10_value2_j104, hpl, hs, hsd, e1, hc, q1, q4, q6, bI_t, bI_f, n_i8, n_i16, n_0, n_31, n_add, n_sub, n_mul, n_neg, n_div, n_rem, n_le_t, n_le_f, n_lt_t, n_lt_f, n_eq_t, n_eq_f, n_cl, n_gd, n_gdt, n_nz, Int.reduceToNat, Int.reduceAdd, Int.reduceSub, Int.reduceMul, Int.reduceNeg, Int.reduceLT, Int.reduceLE, Int.reduceEq, Int.reduceDiv, Int.reduceMod, Nat.reduceAdd, Nat.reduceMul, ↓reduceIte, u_eq, u_no, u_nk, u_ek, u_2, u_3, j_1, j_3, j_eq, j_no, j_nk, lt_def, Option.bind_some]
      | false =>
        have hv : vstep B (val B 1) G m p i = p := by unfold vstep; rw [if_neg (fun c => by rw [e2] at c; cases c.2)]
        obtain ⟨s4, q8, q9⟩ := ih F (i + 1) p s h (by omega) (by omega) (by omega) hp
        refine ⟨s4, q8, ?_⟩
        rw [hv, ← q9]
        rw [e2] at hc
        simp (disch := omega) only [f_X10_value2_L35, hpl, hs, hsd, e1, hc, bI_f, n_i8, n_i16, n_0, n_31, n_add, n_sub, n_mul, n_neg, n_div, n_rem, n_le_t, n_le_f, n_lt_t, n_lt_f, n_eq_t, n_eq_f, n_cl, n_gd, n_gdt, n_nz, Int.reduceToNat, Int.reduceAdd, Int.reduceSub, Int.reduceMul, Int.reduceNeg, Int.reduceLT, Int.reduceLE, Int.reduceEq, Int.reduceDiv, Int.reduceMod, Nat.reduceAdd, Nat.reduceMul, ↓reduceIte, u_eq, u_no, u_nk, u_ek, u_2, u_3, j_1, j_3, j_eq, j_no, j_nk, lt_def, Option.bind_some]
    · have hv : vstep B (val B 1) G m p i = p := by unfold vstep; rw [if_neg (fun c => e1 c.1)]
      obtain ⟨s4, q8, q9⟩ := ih F (i + 1) p s h (by omega) (by omega) (by omega) hp
      refine ⟨s4, q8, ?_⟩
      rw [hv, ← q9]
      simp (disch := omega) only [f_X10_value2_L35, hpl, hs, hsd, e1, n_i8, n_i16, n_0, n_31, n_add, n_sub, n_mul, n_neg, n_div, n_rem, n_le_t, n_le_f, n_lt_t, n_lt_f, n_eq_t, n_eq_f, n_cl, n_gd, n_gdt, n_nz, Int.reduceToNat, Int.reduceAdd, Int.reduceSub, Int.reduceMul, Int.reduceNeg, Int.reduceLT, Int.reduceLE, Int.reduceEq, Int.reduceDiv, Int.reduceMod, Nat.reduceAdd, Nat.reduceMul, ↓reduceIte, u_eq, u_no, u_nk, u_ek, u_2, u_3, j_1, j_3, j_eq, j_no, j_nk, lt_def, Option.bind_some]
theorem m_value2_L24 {B : Brd} {G : Gam} : ∀ (n F : Nat) (i : Int) (p : Int × Bool) (s : ST), MA B G s → 0 ≤ i → (n : Int) = bM B - i → n < F → inb p → ∃ s', Sc 1 2 s s' ∧ f_X10_value2_L24 F (Int32.ofInt p.1) (bI p.2) (Int32.ofInt i) s = some (Int32.ofInt ((upto n i).foldl (vK B (val B 1) G) p).1, s') := by
  intro n
  induction n with
  | zero =>
    intro F i p s h h0 hn hF hp
    obtain ⟨F, rfl⟩ : ∃ F', F = F' + 1 := ⟨F - 1, by omega⟩
    have hmm := m_manMany h
    have hM : bM B ≤ 8 := h.1.1.1.2.2.2.2.2.2.2.1; have hM0 : 0 ≤ bM B := h.1.1.1.2.2.2.2.2.2.1
    refine ⟨s, Sc.rf _ _ s, ?_⟩
    simp (disch := omega) only [f_X10_value2_L24, hmm, n_i8, n_i16, n_0, n_31, n_add, n_sub, n_mul, n_neg, n_div, n_rem, n_le_t, n_le_f, n_lt_t, n_lt_f, n_eq_t, n_eq_f, n_cl, n_gd, n_gdt, n_nz, Int.reduceToNat, Int.reduceAdd, Int.reduceSub, Int.reduceMul, Int.reduceNeg, Int.reduceLT, Int.reduceLE, Int.reduceEq, Int.reduceDiv, Int.reduceMod, Nat.reduceAdd, Nat.reduceMul, ↓reduceIte, u_eq, u_no, u_nk, u_ek, u_2, u_3, j_1, j_3, j_eq, j_no, j_nk, lt_def, Option.bind_some, upto, List.foldl_nil]
  | succ n ih =>
    intro F i p s h h0 hn hF hp
    obtain ⟨F, rfl⟩ : ∃ F', F = F' + 1 := ⟨F - 1, by omega⟩
    have hmm := m_manMany h
    have hM : bM B ≤ 8 := h.1.1.1.2.2.2.2.2.2.2.1; have hM0 : 0 ≤ bM B := h.1.1.1.2.2.2.2.2.2.1
    have hW : bW B ≤ 5 := h.1.1.1.2.1; have hH : bH B ≤ 5 := h.1.1.1.2.2.2.1; have hW0 : 0 ≤ bW B := h.1.1.1.1; have hH0 : 0 ≤ bH B := h.1.1.1.2.2.1; have hWH : bW B * bH B ≤ 25 := (Int.mul_le_mul hW hH hH0 (by omega)); have hWH0 : 0 ≤ bW B * bH B := Int.mul_nonneg hW0 hH0
    obtain ⟨s1, q1, q2⟩ := m_value2_L35 (G := G) h0 (show i < bM B by omega) (f_X10_value2_L24 F) (bW B * bH B).toNat fuel 0 p s h (by omega) (by omega) (by unfold fuel; omega) hp
    have q2 : f_X10_value2_L35 (f_X10_value2_L24 F) fuel (Int32.ofInt p.1) (bI p.2) (Int32.ofInt i) (Int32.ofInt 0) s = f_X10_value2_L24 F (Int32.ofInt (vK B (val B 1) G p i).1) (bI (vK B (val B 1) G p i).2) (Int32.ofInt (i + 1)) s1 := q2
    obtain ⟨s2, q3, q4⟩ := ih F (i + 1) (vK B (val B 1) G p i) s1 (MA_Sc h q1) (by omega) (by omega) (by omega) (vK_b (fun G => val_b h.1 1 G) hp i)
    refine ⟨s2, q1.tr q3, ?_⟩
    simp only [upto, List.foldl_cons]
    rw [← q4, ← q2]
    simp (disch := omega) only [f_X10_value2_L24, hmm, n_i8, n_i16, n_0, n_31, n_add, n_sub, n_mul, n_neg, n_div, n_rem, n_le_t, n_le_f, n_lt_t, n_lt_f, n_eq_t, n_eq_f, n_cl, n_gd, n_gdt, n_nz, Int.reduceToNat, Int.reduceAdd, Int.reduceSub, Int.reduceMul, Int.reduceNeg, Int.reduceLT, Int.reduceLE, Int.reduceEq, Int.reduceDiv, Int.reduceMod, Nat.reduceAdd, Nat.reduceMul, ↓reduceIte, u_eq, u_no, u_nk, u_ek, u_2, u_3, j_1, j_3, j_eq, j_no, j_nk, lt_def, Option.bind_some]
theorem m_value2S {B : Brd} {G : Gam} {s : ST} (h : MA B G s) : ∃ s', f_X10_value2 s = some (Int32.ofInt (val B 2 G), s') ∧ Sc 1 2 s s' := by
  have hsd := m_side h
  have hgs := h.2.1.1.2.2
  have hb := m_balanceOf h hgs.1 hgs.2
  have hct := m_isCrownTaken h
  have hM : bM B ≤ 8 := h.1.1.1.2.2.2.2.2.2.2.1; have hM0 : 0 ≤ bM B := h.1.1.1.2.2.2.2.2.2.1
  cases e : ct B G with
  | true =>
    rw [e] at hct
    refine ⟨s, ?_, Sc.rf _ _ s⟩
    have : val B 2 G = bal B G (gs G) := by show (if ct B G = true then _ else _) = _; rw [if_pos e]
    rw [this]
    simp (disch := omega) only [f_X10_value2, hsd, hb, hct, bI_t, n_i8, n_i16, n_0, n_31, n_add, n_sub, n_mul, n_neg, n_div, n_rem, n_le_t, n_le_f, n_lt_t, n_lt_f, n_eq_t, n_eq_f, n_cl, n_gd, n_gdt, n_nz, Int.reduceToNat, Int.reduceAdd, Int.reduceSub, Int.reduceMul, Int.reduceNeg, Int.reduceLT, Int.reduceLE, Int.reduceEq, Int.reduceDiv, Int.reduceMod, Nat.reduceAdd, Nat.reduceMul, ↓reduceIte, u_eq, u_no, u_nk, u_ek, u_2, u_3, j_1, j_3, j_eq, j_no, j_nk, lt_def, Option.bind_some]
  | false =>
    rw [e] at hct
    obtain ⟨s1, q1, q2⟩ := m_value2_L24 (G := G) (bM B).toNat fuel 0 (bal B G (gs G), false) s h (by omega) (by omega) (by unfold fuel; omega) (bal_bd h.1 G _)
    refine ⟨s1, ?_, q1⟩
    have : val B 2 G = ((mens B).foldl (vK B (val B 1) G) (bal B G (gs G), false)).1 := by show (if ct B G = true then _ else _) = _; rw [if_neg (by rw [e]; simp)]
    rw [this]
    simp (disch := omega) only [f_X10_value2, hsd, hb, hct, bI_f, n_i8, n_i16, n_0, n_31, n_add, n_sub, n_mul, n_neg, n_div, n_rem, n_le_t, n_le_f, n_lt_t, n_lt_f, n_eq_t, n_eq_f, n_cl, n_gd, n_gdt, n_nz, Int.reduceToNat, Int.reduceAdd, Int.reduceSub, Int.reduceMul, Int.reduceNeg, Int.reduceLT, Int.reduceLE, Int.reduceEq, Int.reduceDiv, Int.reduceMod, Nat.reduceAdd, Nat.reduceMul, ↓reduceIte, u_eq, u_no, u_nk, u_ek, u_2, u_3, j_1, j_3, j_eq, j_no, j_nk, lt_def, Option.bind_some]
    exact q2

theorem m_value3_L35 {B : Brd} {G : Gam} {m : Int} (h1 : 0 ≤ m) (h2 : m < bM B) (K : Int32 → Int32 → Int32 → ST → Option (Int32 × ST)) : ∀ (n F : Nat) (i : Int) (p : Int × Bool) (s : ST), MA B G s → 0 ≤ i → (n : Int) = bW B * bH B - i → n < F → inb p → ∃ s', Sc 1 3 s s' ∧ f_X10_value3_L35 K F (Int32.ofInt p.1) (bI p.2) (Int32.ofInt m) (Int32.ofInt i) s = K (Int32.ofInt ((upto n i).foldl (vstep B (val B 2) G m) p).1) (bI ((upto n i).foldl (vstep B (val B 2) G m) p).2) (Int32.ofInt (m + 1)) s' := by
  intro n
  induction n with
  | zero =>
    intro F i p s h h0 hn hF hp
    obtain ⟨F, rfl⟩ : ∃ F', F = F' + 1 := ⟨F - 1, by omega⟩
    have hpl := m_places h
    have hW : bW B ≤ 5 := h.1.1.1.2.1; have hH : bH B ≤ 5 := h.1.1.1.2.2.2.1; have hW0 : 0 ≤ bW B := h.1.1.1.1; have hH0 : 0 ≤ bH B := h.1.1.1.2.2.1; have hWH : bW B * bH B ≤ 25 := (Int.mul_le_mul hW hH hH0 (by omega)); have hWH0 : 0 ≤ bW B * bH B := Int.mul_nonneg hW0 hH0
    refine ⟨s, Sc.rf _ _ s, ?_⟩
    simp (disch := omega) only [f_X10_value3_L35, hpl, n_i8, n_i16, n_0, n_31, n_add, n_sub, n_mul, n_neg, n_div, n_rem, n_le_t, n_le_f, n_lt_t, n_lt_f, n_eq_t, n_eq_f, n_cl, n_gd, n_gdt, n_nz, Int.reduceToNat, Int.reduceAdd, Int.reduceSub, Int.reduceMul, Int.reduceNeg, Int.reduceLT, Int.reduceLE, Int.reduceEq, Int.reduceDiv, Int.reduceMod, Nat.reduceAdd, Nat.reduceMul, ↓reduceIte, u_eq, u_no, u_nk, u_ek, u_2, u_3, j_1, j_3, j_eq, j_no, j_nk, lt_def, Option.bind_some, upto, List.foldl_nil]
  | succ n ih =>
    intro F i p s h h0 hn hF hp
    obtain ⟨F, rfl⟩ : ∃ F', F = F' + 1 := ⟨F - 1, by omega⟩
    have hpl := m_places h
    have hs := m_sideOf h h1 h2
    have hsd := m_side h
    have hgs := h.2.1.1.2.2
    have hb := h.1.2.2.1 m h1 h2
    have hW : bW B ≤ 5 := h.1.1.1.2.1; have hH : bH B ≤ 5 := h.1.1.1.2.2.2.1; have hW0 : 0 ≤ bW B := h.1.1.1.1; have hH0 : 0 ≤ bH B := h.1.1.1.2.2.1; have hWH : bW B * bH B ≤ 25 := (Int.mul_le_mul hW hH hH0 (by omega)); have hWH0 : 0 ≤ bW B * bH B := Int.mul_nonneg hW0 hH0
    have hc := m_canGo h h1 h2 h0 (show i < bW B * bH B by omega)
    have hc : f_X10_canGo (Int32.ofInt m) (Int32.ofInt i) s = some (bI (goK B G m i), s) := hc
    simp only [upto, List.foldl_cons]
    by_cases e1 : sd B m = gs G
    · cases e2 : goK B G m i with
      | true =>
        have hv : vstep B (val B 2) G m p i = bst p (-(val B 2 (mvK B G m i))) := by unfold vstep; rw [if_pos ⟨e1, e2⟩]
        obtain ⟨s1, q1, q2, -, q3⟩ := m_try h (L := 3) (by omega) (by omega) h1 h2 h0 (by omega) e2
        obtain ⟨s2, q4, q5⟩ := m_value2S q2
        obtain ⟨s3, q6, q7⟩ := q3 s2 1 2 q5 (by omega) 1 3 (by omega) (by omega) (by omega) (by omega)
        have q4 : f_X10_value2 s1 = some (Int32.ofInt (val B 2 (mvK B G m i)), s2) := q4
        have hvb := val_b h.1 2 (mvK B G m i)
        obtain ⟨s4, q8, q9⟩ := ih F (i + 1) (vstep B (val B 2) G m p i) s3 (MA_Sc h q7) (by omega) (by omega) (by omega) (vstep_b (fun G => val_b h.1 2 G) hp i)
        refine ⟨s4, q7.tr q8, ?_⟩
        rw [hv] at q9 ⊢
        rw [← q9]
        rw [e2] at hc
        unfold inb at hp
        obtain ⟨v, any⟩ := p
        cases any with
        | false =>
          have hz : bst (v, false) (-(val B 2 (mvK B G m i))) = (-(val B 2 (mvK B G m i)), true) := by unfold bst; rw [if_neg (by simp)]
          rw [hz]
          simp (disch := omega) only [f_X10_value3_L35, f_X10_value3_j104, hpl, hs, hsd, e1, hc, q1, q4, q6, bI_t, bI_f, n_i8, n_i16, n_0, n_31, n_add, n_sub, n_mul, n_neg, n_div, n_rem, n_le_t, n_le_f, n_lt_t, n_lt_f, n_eq_t, n_eq_f, n_cl, n_gd, n_gdt, n_nz, Int.reduceToNat, Int.reduceAdd, Int.reduceSub, Int.reduceMul, Int.reduceNeg, Int.reduceLT, Int.reduceLE, Int.reduceEq, Int.reduceDiv, Int.reduceMod, Nat.reduceAdd, Nat.reduceMul, ↓reduceIte, u_eq, u_no, u_nk, u_ek, u_2, u_3, j_1, j_3, j_eq, j_no, j_nk, lt_def, Option.bind_some]
        | true =>
          have hp : -1000 ≤ v ∧ v ≤ 1000 := hp
          by_cases e3 : -(val B 2 (mvK B G m i)) ≤ v
          · have hz : bst (v, true) (-(val B 2 (mvK B G m i))) = (v, true) := by unfold bst; rw [if_pos ⟨rfl, e3⟩]
            rw [hz]
            simp (disch := omega) only [f_X10_value3_L35, f_X10_value3_j104, hpl, hs, hsd, e1, hc, q1, q4, q6, bI_t, bI_f, n_i8, n_i16, n_0, n_31, n_add, n_sub, n_mul, n_neg, n_div, n_rem, n_le_t, n_le_f, n_lt_t, n_lt_f, n_eq_t, n_eq_f, n_cl, n_gd, n_gdt, n_nz, Int.reduceToNat, Int.reduceAdd, Int.reduceSub, Int.reduceMul, Int.reduceNeg, Int.reduceLT, Int.reduceLE, Int.reduceEq, Int.reduceDiv, Int.reduceMod, Nat.reduceAdd, Nat.reduceMul, ↓reduceIte, u_eq, u_no, u_nk, u_ek, u_2, u_3, j_1, j_3, j_eq, j_no, j_nk, lt_def, Option.bind_some]
          · have hz : bst (v, true) (-(val B 2 (mvK B G m i))) = (-(val B 2 (mvK B G m i)), true) := by unfold bst; rw [if_neg (fun c => e3 c.2)]
            rw [hz]
            simp (disch := omega) only [f_X10_value3_L35, f_X10_value3_j104, hpl, hs, hsd, e1, hc, q1, q4, q6, bI_t, bI_f, n_i8, n_i16, n_0, n_31, n_add, n_sub, n_mul, n_neg, n_div, n_rem, n_le_t, n_le_f, n_lt_t, n_lt_f, n_eq_t, n_eq_f, n_cl, n_gd, n_gdt, n_nz, Int.reduceToNat, Int.reduceAdd, Int.reduceSub, Int.reduceMul, Int.reduceNeg, Int.reduceLT, Int.reduceLE, Int.reduceEq, Int.reduceDiv, Int.reduceMod, Nat.reduceAdd, Nat.reduceMul, ↓reduceIte, u_eq, u_no, u_nk, u_ek, u_2, u_3, j_1, j_3, j_eq, j_no, j_nk, lt_def, Option.bind_some]
      | false =>
        have hv : vstep B (val B 2) G m p i = p := by unfold vstep; rw [if_neg (fun c => by rw [e2] at c; cases c.2)]
        obtain ⟨s4, q8, q9⟩ := ih F (i + 1) p s h (by omega) (by omega) (by omega) hp
        refine ⟨s4, q8, ?_⟩
        rw [hv, ← q9]
        rw [e2] at hc
        simp (disch := omega) only [f_X10_value3_L35, hpl, hs, hsd, e1, hc, bI_f, n_i8, n_i16, n_0, n_31, n_add, n_sub, n_mul, n_neg, n_div, n_rem, n_le_t, n_le_f, n_lt_t, n_lt_f, n_eq_t, n_eq_f, n_cl, n_gd, n_gdt, n_nz, Int.reduceToNat, Int.reduceAdd, Int.reduceSub, Int.reduceMul, Int.reduceNeg, Int.reduceLT, Int.reduceLE, Int.reduceEq, Int.reduceDiv, Int.reduceMod, Nat.reduceAdd, Nat.reduceMul, ↓reduceIte, u_eq, u_no, u_nk, u_ek, u_2, u_3, j_1, j_3, j_eq, j_no, j_nk, lt_def, Option.bind_some]
    · have hv : vstep B (val B 2) G m p i = p := by unfold vstep; rw [if_neg (fun c => e1 c.1)]
      obtain ⟨s4, q8, q9⟩ := ih F (i + 1) p s h (by omega) (by omega) (by omega) hp
      refine ⟨s4, q8, ?_⟩
      rw [hv, ← q9]
      simp (disch := omega) only [f_X10_value3_L35, hpl, hs, hsd, e1, n_i8, n_i16, n_0, n_31, n_add, n_sub, n_mul, n_neg, n_div, n_rem, n_le_t, n_le_f, n_lt_t, n_lt_f, n_eq_t, n_eq_f, n_cl, n_gd, n_gdt, n_nz, Int.reduceToNat, Int.reduceAdd, Int.reduceSub, Int.reduceMul, Int.reduceNeg, Int.reduceLT, Int.reduceLE, Int.reduceEq, Int.reduceDiv, Int.reduceMod, Nat.reduceAdd, Nat.reduceMul, ↓reduceIte, u_eq, u_no, u_nk, u_ek, u_2, u_3, j_1, j_3, j_eq, j_no, j_nk, lt_def, Option.bind_some]
theorem m_value3_L24 {B : Brd} {G : Gam} : ∀ (n F : Nat) (i : Int) (p : Int × Bool) (s : ST), MA B G s → 0 ≤ i → (n : Int) = bM B - i → n < F → inb p → ∃ s', Sc 1 3 s s' ∧ f_X10_value3_L24 F (Int32.ofInt p.1) (bI p.2) (Int32.ofInt i) s = some (Int32.ofInt ((upto n i).foldl (vK B (val B 2) G) p).1, s') := by
  intro n
  induction n with
  | zero =>
    intro F i p s h h0 hn hF hp
    obtain ⟨F, rfl⟩ : ∃ F', F = F' + 1 := ⟨F - 1, by omega⟩
    have hmm := m_manMany h
    have hM : bM B ≤ 8 := h.1.1.1.2.2.2.2.2.2.2.1; have hM0 : 0 ≤ bM B := h.1.1.1.2.2.2.2.2.2.1
    refine ⟨s, Sc.rf _ _ s, ?_⟩
    simp (disch := omega) only [f_X10_value3_L24, hmm, n_i8, n_i16, n_0, n_31, n_add, n_sub, n_mul, n_neg, n_div, n_rem, n_le_t, n_le_f, n_lt_t, n_lt_f, n_eq_t, n_eq_f, n_cl, n_gd, n_gdt, n_nz, Int.reduceToNat, Int.reduceAdd, Int.reduceSub, Int.reduceMul, Int.reduceNeg, Int.reduceLT, Int.reduceLE, Int.reduceEq, Int.reduceDiv, Int.reduceMod, Nat.reduceAdd, Nat.reduceMul, ↓reduceIte, u_eq, u_no, u_nk, u_ek, u_2, u_3, j_1, j_3, j_eq, j_no, j_nk, lt_def, Option.bind_some, upto, List.foldl_nil]
  | succ n ih =>
    intro F i p s h h0 hn hF hp
    obtain ⟨F, rfl⟩ : ∃ F', F = F' + 1 := ⟨F - 1, by omega⟩
    have hmm := m_manMany h
    have hM : bM B ≤ 8 := h.1.1.1.2.2.2.2.2.2.2.1; have hM0 : 0 ≤ bM B := h.1.1.1.2.2.2.2.2.2.1
    have hW : bW B ≤ 5 := h.1.1.1.2.1; have hH : bH B ≤ 5 := h.1.1.1.2.2.2.1; have hW0 : 0 ≤ bW B := h.1.1.1.1; have hH0 : 0 ≤ bH B := h.1.1.1.2.2.1; have hWH : bW B * bH B ≤ 25 := (Int.mul_le_mul hW hH hH0 (by omega)); have hWH0 : 0 ≤ bW B * bH B := Int.mul_nonneg hW0 hH0
    obtain ⟨s1, q1, q2⟩ := m_value3_L35 (G := G) h0 (show i < bM B by omega) (f_X10_value3_L24 F) (bW B * bH B).toNat fuel 0 p s h (by omega) (by omega) (by unfold fuel; omega) hp
    have q2 : f_X10_value3_L35 (f_X10_value3_L24 F) fuel (Int32.ofInt p.1) (bI p.2) (Int32.ofInt i) (Int32.ofInt 0) s = f_X10_value3_L24 F (Int32.ofInt (vK B (val B 2) G p i).1) (bI (vK B (val B 2) G p i).2) (Int32.ofInt (i + 1)) s1 := q2
    obtain ⟨s2, q3, q4⟩ := ih F (i + 1) (vK B (val B 2) G p i) s1 (MA_Sc h q1) (by omega) (by omega) (by omega) (vK_b (fun G => val_b h.1 2 G) hp i)
    refine ⟨s2, q1.tr q3, ?_⟩
    simp only [upto, List.foldl_cons]
    rw [← q4, ← q2]
    simp (disch := omega) only [f_X10_value3_L24, hmm, n_i8, n_i16, n_0, n_31, n_add, n_sub, n_mul, n_neg, n_div, n_rem, n_le_t, n_le_f, n_lt_t, n_lt_f, n_eq_t, n_eq_f, n_cl, n_gd, n_gdt, n_nz, Int.reduceToNat, Int.reduceAdd, Int.reduceSub, Int.reduceMul, Int.reduceNeg, Int.reduceLT, Int.reduceLE, Int.reduceEq, Int.reduceDiv, Int.reduceMod, Nat.reduceAdd, Nat.reduceMul, ↓reduceIte, u_eq, u_no, u_nk, u_ek, u_2, u_3, j_1, j_3, j_eq, j_no, j_nk, lt_def, Option.bind_some]
theorem m_value3S {B : Brd} {G : Gam} {s : ST} (h : MA B G s) : ∃ s', f_X10_value3 s = some (Int32.ofInt (val B 3 G), s') ∧ Sc 1 3 s s' := by
  have hsd := m_side h
  have hgs := h.2.1.1.2.2
  have hb := m_balanceOf h hgs.1 hgs.2
  have hct := m_isCrownTaken h
  have hM : bM B ≤ 8 := h.1.1.1.2.2.2.2.2.2.2.1; have hM0 : 0 ≤ bM B := h.1.1.1.2.2.2.2.2.2.1
  cases e : ct B G with
  | true =>
    rw [e] at hct
    refine ⟨s, ?_, Sc.rf _ _ s⟩
    have : val B 3 G = bal B G (gs G) := by show (if ct B G = true then _ else _) = _; rw [if_pos e]
    rw [this]
    simp (disch := omega) only [f_X10_value3, hsd, hb, hct, bI_t, n_i8, n_i16, n_0, n_31, n_add, n_sub, n_mul, n_neg, n_div, n_rem, n_le_t, n_le_f, n_lt_t, n_lt_f, n_eq_t, n_eq_f, n_cl, n_gd, n_gdt, n_nz, Int.reduceToNat, Int.reduceAdd, Int.reduceSub, Int.reduceMul, Int.reduceNeg, Int.reduceLT, Int.reduceLE, Int.reduceEq, Int.reduceDiv, Int.reduceMod, Nat.reduceAdd, Nat.reduceMul, ↓reduceIte, u_eq, u_no, u_nk, u_ek, u_2, u_3, j_1, j_3, j_eq, j_no, j_nk, lt_def, Option.bind_some]
  | false =>
    rw [e] at hct
    obtain ⟨s1, q1, q2⟩ := m_value3_L24 (G := G) (bM B).toNat fuel 0 (bal B G (gs G), false) s h (by omega) (by omega) (by unfold fuel; omega) (bal_bd h.1 G _)
    refine ⟨s1, ?_, q1⟩
    have : val B 3 G = ((mens B).foldl (vK B (val B 2) G) (bal B G (gs G), false)).1 := by show (if ct B G = true then _ else _) = _; rw [if_neg (by rw [e]; simp)]
    rw [this]
    simp (disch := omega) only [f_X10_value3, hsd, hb, hct, bI_f, n_i8, n_i16, n_0, n_31, n_add, n_sub, n_mul, n_neg, n_div, n_rem, n_le_t, n_le_f, n_lt_t, n_lt_f, n_eq_t, n_eq_f, n_cl, n_gd, n_gdt, n_nz, Int.reduceToNat, Int.reduceAdd, Int.reduceSub, Int.reduceMul, Int.reduceNeg, Int.reduceLT, Int.reduceLE, Int.reduceEq, Int.reduceDiv, Int.reduceMod, Nat.reduceAdd, Nat.reduceMul, ↓reduceIte, u_eq, u_no, u_nk, u_ek, u_2, u_3, j_1, j_3, j_eq, j_no, j_nk, lt_def, Option.bind_some]
    exact q2

theorem m_valueBy {B : Brd} {G : Gam} {s : ST} (h : MA B G s) {d : Int} (h0 : 0 ≤ d) (h3 : d ≤ 3) : ∃ s', f_X10_valueBy (Int32.ofInt d) s = some (Int32.ofInt (val B d.toNat G), s') ∧ Sc 1 d s s' := by
  have : d = 0 ∨ d = 1 ∨ d = 2 ∨ d = 3 := by omega
  rcases this with e | e | e | e <;> subst e
  · obtain ⟨s1, q1, q2⟩ := m_value0S h
    exact ⟨s1, by simp (disch := omega) only [f_X10_valueBy, q1, n_i8, n_i16, n_0, n_31, n_add, n_sub, n_mul, n_neg, n_div, n_rem, n_le_t, n_le_f, n_lt_t, n_lt_f, n_eq_t, n_eq_f, n_cl, n_gd, n_gdt, n_nz, Int.reduceToNat, Int.reduceAdd, Int.reduceSub, Int.reduceMul, Int.reduceNeg, Int.reduceLT, Int.reduceLE, Int.reduceEq, Int.reduceDiv, Int.reduceMod, Nat.reduceAdd, Nat.reduceMul, ↓reduceIte, u_eq, u_no, u_nk, u_ek, u_2, u_3, j_1, j_3, j_eq, j_no, j_nk, lt_def, Option.bind_some], q2⟩
  · obtain ⟨s1, q1, q2⟩ := m_value1S h
    exact ⟨s1, by simp (disch := omega) only [f_X10_valueBy, q1, n_i8, n_i16, n_0, n_31, n_add, n_sub, n_mul, n_neg, n_div, n_rem, n_le_t, n_le_f, n_lt_t, n_lt_f, n_eq_t, n_eq_f, n_cl, n_gd, n_gdt, n_nz, Int.reduceToNat, Int.reduceAdd, Int.reduceSub, Int.reduceMul, Int.reduceNeg, Int.reduceLT, Int.reduceLE, Int.reduceEq, Int.reduceDiv, Int.reduceMod, Nat.reduceAdd, Nat.reduceMul, ↓reduceIte, u_eq, u_no, u_nk, u_ek, u_2, u_3, j_1, j_3, j_eq, j_no, j_nk, lt_def, Option.bind_some], q2⟩
  · obtain ⟨s1, q1, q2⟩ := m_value2S h
    exact ⟨s1, by simp (disch := omega) only [f_X10_valueBy, q1, n_i8, n_i16, n_0, n_31, n_add, n_sub, n_mul, n_neg, n_div, n_rem, n_le_t, n_le_f, n_lt_t, n_lt_f, n_eq_t, n_eq_f, n_cl, n_gd, n_gdt, n_nz, Int.reduceToNat, Int.reduceAdd, Int.reduceSub, Int.reduceMul, Int.reduceNeg, Int.reduceLT, Int.reduceLE, Int.reduceEq, Int.reduceDiv, Int.reduceMod, Nat.reduceAdd, Nat.reduceMul, ↓reduceIte, u_eq, u_no, u_nk, u_ek, u_2, u_3, j_1, j_3, j_eq, j_no, j_nk, lt_def, Option.bind_some], q2⟩
  · obtain ⟨s1, q1, q2⟩ := m_value3S h
    exact ⟨s1, by simp (disch := omega) only [f_X10_valueBy, q1, n_i8, n_i16, n_0, n_31, n_add, n_sub, n_mul, n_neg, n_div, n_rem, n_le_t, n_le_f, n_lt_t, n_lt_f, n_eq_t, n_eq_f, n_cl, n_gd, n_gdt, n_nz, Int.reduceToNat, Int.reduceAdd, Int.reduceSub, Int.reduceMul, Int.reduceNeg, Int.reduceLT, Int.reduceLE, Int.reduceEq, Int.reduceDiv, Int.reduceMod, Nat.reduceAdd, Nat.reduceMul, ↓reduceIte, u_eq, u_no, u_nk, u_ek, u_2, u_3, j_1, j_3, j_eq, j_no, j_nk, lt_def, Option.bind_some], q2⟩
