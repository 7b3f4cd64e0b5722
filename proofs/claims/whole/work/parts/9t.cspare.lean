/-! L3: the class spares a field, finds the move that was played -/
theorem c_passK {B : Brd} {G : Gam} {brd : Bool} {p : Nat} {s : ST} (h : CQ B G brd p s) {k : Int} (k0 : -2147483648 ≤ k) (k1 : k ≤ 2147483647) : ∃ s1 s2, f_X3_copy 46 36 s = some s1 ∧ f_X3_moveAt 36 (Int32.ofInt k) s1 = some (Int32.ofInt (mvC B (chz B G k)), s1) ∧ f_X3_passDay 46 (Int32.ofInt (mvC B (chz B G k))) s1 = some (Int32.ofInt (tkA B G (chz B G k)), s2) ∧ GT B (dayG B G (chz B G k)) 46 p s2 ∧ s2.1 46 1 = Int32.ofInt (d999 (gd_ G)) ∧ DP B (-1) 0 46 s2 ∧ (∀ a j : Nat, ¬ (46 ≤ a ∧ a ≤ 55) → s2.1 a j = s.1 a j) ∧ s2.2 = s.2 := by
  have hM0 : 0 ≤ bM B := h.1.1.1.1.1.1.1.2.2.2.2.2.2.1
  obtain ⟨s1, a1, a2, a3, a4, a5, a6⟩ := c_copy h.1.1 h.2.1.2 h.1.2.1 h.1.2.2.1
  have h1 := CQ_tr h (fun a k x _ _ => a5 a k x) a6
  have hmv := c_moveAt h1.1.1.1 h1.1.1.2.1 k0 k1
  obtain ⟨s2, b1, b2, b3, b4⟩ := c_passDay a2 h.1.2.2.2 (okA_chz (G := G) hM0 k1) a3 h.2.2.2.2
  exact ⟨s1, s2, a1, hmv, b1, b2, b3, ⟨(b4.2.1 0).trans a4.1, (b4.2.1 1).trans a4.2⟩, fun a j x => (b4.1 a j (by omega)).trans (a5 a j x), b4.2.2.trans a6⟩
theorem c_spare_L {B : Brd} {G : Gam} {brd : Bool} {p : Nat} {f n w N : Int} (hb : brd = true) (f0 : 0 ≤ f) (f1 : f < bF B) (n0 : 1 ≤ n) (n1 : n ≤ 6) (hd : gd_ G + n ≤ 999) (N1 : N ≤ 200) (K : Int32 → Int32 → Int32 → ST → Option (Int32 × ST)) : ∀ (c F : Nat) (k : Int) (r : Int × Int) (s : ST), CQ B G brd p s → -1 ≤ r.2 → r.2 ≤ 999 → 0 ≤ k → (c : Int) = N - k → c < F → ∃ s', CQ B G brd p s' ∧ XF s s' ∧ f_X9_spare_L48 K F (Int32.ofInt f) (Int32.ofInt n) (Int32.ofInt w) (Int32.ofInt N) (Int32.ofInt r.1) (Int32.ofInt r.2) (Int32.ofInt k) s = K (Int32.ofInt w) (Int32.ofInt ((upto c k).foldl (spS B f n G) r).1) (Int32.ofInt ((upto c k).foldl (spS B f n G) r).2) s' := by
  intro c
  induction c with
  | zero =>
    intro F k r s h r0 r1 k0 hc hF
    obtain ⟨F, rfl⟩ : ∃ F', F = F' + 1 := ⟨F - 1, by omega⟩
    refine ⟨s, h, XF.rf s, ?_⟩
    simp (disch := omega) only [f_X9_spare_L48, upto, List.foldl_nil, n_i8, n_i16, n_0, n_31, n_add, n_sub, n_mul, n_neg, n_div, n_rem, n_le_t, n_le_f, n_lt_t, n_lt_f, n_eq_t, n_eq_f, n_cl, n_gd, n_gdt, n_nz, Int.reduceToNat, Int.reduceAdd, Int.reduceSub, Int.reduceMul, Int.reduceNeg, Int.reduceLT, Int.reduceLE, Int.reduceEq, Int.reduceDiv, Int.reduceMod, Nat.reduceAdd, Nat.reduceMul, ↓reduceIte, u_eq, u_no, u_nk, u_ek, u_2, u_3, j_1, j_3, j_eq, j_no, j_nk, ltd, bnd]
  | succ c ih =>
    intro F k r s h r0 r1 k0 hc hF
    obtain ⟨F, rfl⟩ : ∃ F', F = F' + 1 := ⟨F - 1, by omega⟩
    have hF6 : bF B ≤ 6 := h.1.1.1.1.1.1.1.2.2.2.2.2.2.2.2.2
    have hBd := (h.2.2.1 hb).1
    obtain ⟨s1, s2, a1, a2, a3, a4, a5, a6, a7, a8⟩ := c_passK h (k := k) (by omega) (by omega)
    have hde : d999 (gd_ G) = gd_ (dayG B G (chz B G k)) := by rw [dayG_d]; unfold d999; split <;> omega
    rw [hde] at a5
    obtain ⟨s3, b1, b2, b3, b4⟩ := c_days h.1.2.2.2 hBd (ds := -1) (db := 0) (Or.inl rfl) a4 a5 a6 (n := n - 1) (by omega) (by omega) (by rw [dayG_d]; omega)
    have hx : ∀ a j : Nat, ¬ (46 ≤ a ∧ a ≤ 55) → s3.1 a j = s.1 a j := fun a j x => (b4.1 a j (by omega)).trans (a7 a j x)
    have h2 : s3.2 = s.2 := b4.2.2.trans a8
    have hq := CQ_tr h (fun a j x _ _ => hx a j x) h2
    have hbv := b2.1.1.2.2.2.2 f f0 f1
    have hbc : s3.1 49 f.toNat = Int32.ofInt (gb (daysN B (-1) 0 (n - 1).toNat (dayG B G (chz B G k))) f) := b2.2.2 f f0 f1
    have hst : spS B f n G r k = if r.2 < gb (daysN B (-1) 0 (n - 1).toNat (dayG B G (chz B G k))) f then (k, gb (daysN B (-1) 0 (n - 1).toNat (dayG B G (chz B G k))) f) else r := rfl
    generalize gb (daysN B (-1) 0 (n - 1).toNat (dayG B G (chz B G k))) f = v at *
    simp only [upto, List.foldl_cons]
    by_cases e : r.2 < v
    · rw [if_pos e] at hst
      rw [hst]
      obtain ⟨s', q1, q2, q3⟩ := ih F (k + 1) (k, v) s3 hq (by show -1 ≤ v; omega) (by show v ≤ 999; omega) (by omega) (by omega) (by omega)
      refine ⟨s', q1, XF.tr ⟨fun a j x y => hx a j (by omega), h2⟩ q2, ?_⟩
      rw [← q3, f_X9_spare_L48]
      simp (disch := omega) only [a1, a2, a3, b1, hbc, n_i8, n_i16, n_0, n_31, n_add, n_sub, n_mul, n_neg, n_div, n_rem, n_le_t, n_le_f, n_lt_t, n_lt_f, n_eq_t, n_eq_f, n_cl, n_gd, n_gdt, n_nz, Int.reduceToNat, Int.reduceAdd, Int.reduceSub, Int.reduceMul, Int.reduceNeg, Int.reduceLT, Int.reduceLE, Int.reduceEq, Int.reduceDiv, Int.reduceMod, Nat.reduceAdd, Nat.reduceMul, ↓reduceIte, u_eq, u_no, u_nk, u_ek, u_2, u_3, j_1, j_3, j_eq, j_no, j_nk, ltd, bnd]
    · rw [if_neg e] at hst
      rw [hst]
      obtain ⟨s', q1, q2, q3⟩ := ih F (k + 1) r s3 hq r0 r1 (by omega) (by omega) (by omega)
      refine ⟨s', q1, XF.tr ⟨fun a j x y => hx a j (by omega), h2⟩ q2, ?_⟩
      rw [← q3, f_X9_spare_L48]
      simp (disch := omega) only [a1, a2, a3, b1, hbc, n_i8, n_i16, n_0, n_31, n_add, n_sub, n_mul, n_neg, n_div, n_rem, n_le_t, n_le_f, n_lt_t, n_lt_f, n_eq_t, n_eq_f, n_cl, n_gd, n_gdt, n_nz, Int.reduceToNat, Int.reduceAdd, Int.reduceSub, Int.reduceMul, Int.reduceNeg, Int.reduceLT, Int.reduceLE, Int.reduceEq, Int.reduceDiv, Int.reduceMod, Nat.reduceAdd, Nat.reduceMul, ↓reduceIte, u_eq, u_no, u_nk, u_ek, u_2, u_3, j_1, j_3, j_eq, j_no, j_nk, ltd, bnd]
theorem c_spare {B : Brd} {G : Gam} {brd : Bool} {p : Nat} {s : ST} (h : CQ B G brd p s) {f n w : Int} (f1 : -2147483648 ≤ f) (f2 : f ≤ 2147483647) (n1 : -2147483648 ≤ n) (n2 : n ≤ 2147483647) (w1 : -2147483648 ≤ w) (w2 : w ≤ 2147483647) : ((0 ≤ f ∧ f < bF B) ∧ ahd G brd n 1 6 ∧ (0 ≤ w ∧ w ≤ 1) → ∃ s', f_X9_spare (Int32.ofInt f) (Int32.ofInt n) (Int32.ofInt w) s = some (Int32.ofInt (aSpare B f n G w (mvN B G)), s') ∧ CQ B G brd p s' ∧ XF s s') ∧ (¬ ((0 ≤ f ∧ f < bF B) ∧ ahd G brd n 1 6 ∧ (0 ≤ w ∧ w ≤ 1)) → f_X9_spare (Int32.ofInt f) (Int32.ofInt n) (Int32.ofInt w) s = some (Int32.ofInt (-1), s)) := by
  have hc := c_canCome h n1 n2 (a := 1) (b := 6) (by omega) (by omega) (by omega) (by omega)
  have hi := c_isField h f1 f2
  constructor
  · rintro ⟨hf, ha, hw⟩
    have hc := hc.1 ha
    rw [decide_eq_true hf] at hi
    have hmc := c_moveCount h.1.1.1 h.1.1.2.1
    have hNb := mvN_b h.1.1.1.1.1 (G := G)
    obtain ⟨s', q1, q2, q3⟩ := c_spare_L (w := w) (N := mvN B G) ha.1 hf.1 hf.2 ha.2.1.1 ha.2.1.2 ha.2.2 hNb.2 f_X9_spare_j128 (mvN B G).toNat fuel 0 (-1, -1) s h (by show (-1 : Int) ≤ -1; omega) (by show (-1 : Int) ≤ 999; omega) (by omega) (by omega) (by unfold fuel; omega)
    have q3 : f_X9_spare_L48 f_X9_spare_j128 fuel (Int32.ofInt f) (Int32.ofInt n) (Int32.ofInt w) (Int32.ofInt (mvN B G)) (Int32.ofInt (-1)) (Int32.ofInt (-1)) (Int32.ofInt 0) s = f_X9_spare_j128 (Int32.ofInt w) (Int32.ofInt (spR B f n G (mvN B G)).1) (Int32.ofInt (spR B f n G (mvN B G)).2) s' := q3
    refine ⟨s', ?_, q1, q2⟩
    have : w = 0 ∨ w = 1 := by omega
    rcases this with rfl | rfl
    · simp (disch := omega) only [f_X9_spare, f_X9_spare_j128, aSpare, hi, hc, hmc, q3, bI_t, n_i8, n_i16, n_0, n_31, n_add, n_sub, n_mul, n_neg, n_div, n_rem, n_le_t, n_le_f, n_lt_t, n_lt_f, n_eq_t, n_eq_f, n_cl, n_gd, n_gdt, n_nz, Int.reduceToNat, Int.reduceAdd, Int.reduceSub, Int.reduceMul, Int.reduceNeg, Int.reduceLT, Int.reduceLE, Int.reduceEq, Int.reduceDiv, Int.reduceMod, Nat.reduceAdd, Nat.reduceMul, ↓reduceIte, u_eq, u_no, u_nk, u_ek, u_2, u_3, j_1, j_3, j_eq, j_no, j_nk, ltd, bnd]
    · simp (disch := omega) only [f_X9_spare, f_X9_spare_j128, aSpare, hi, hc, hmc, q3, bI_t, n_i8, n_i16, n_0, n_31, n_add, n_sub, n_mul, n_neg, n_div, n_rem, n_le_t, n_le_f, n_lt_t, n_lt_f, n_eq_t, n_eq_f, n_cl, n_gd, n_gdt, n_nz, Int.reduceToNat, Int.reduceAdd, Int.reduceSub, Int.reduceMul, Int.reduceNeg, Int.reduceLT, Int.reduceLE, Int.reduceEq, Int.reduceDiv, Int.reduceMod, Nat.reduceAdd, Nat.reduceMul, ↓reduceIte, u_eq, u_no, u_nk, u_ek, u_2, u_3, j_1, j_3, j_eq, j_no, j_nk, ltd, bnd]
  · intro hn
    by_cases hf : 0 ≤ f ∧ f < bF B
    · rw [decide_eq_true hf] at hi
      by_cases e1 : w < 0
      · simp (disch := omega) only [f_X9_spare, hi, bI_t, n_i8, n_i16, n_0, n_31, n_add, n_sub, n_mul, n_neg, n_div, n_rem, n_le_t, n_le_f, n_lt_t, n_lt_f, n_eq_t, n_eq_f, n_cl, n_gd, n_gdt, n_nz, Int.reduceToNat, Int.reduceAdd, Int.reduceSub, Int.reduceMul, Int.reduceNeg, Int.reduceLT, Int.reduceLE, Int.reduceEq, Int.reduceDiv, Int.reduceMod, Nat.reduceAdd, Nat.reduceMul, ↓reduceIte, u_eq, u_no, u_nk, u_ek, u_2, u_3, j_1, j_3, j_eq, j_no, j_nk, ltd, bnd]
      by_cases e2 : 1 < w
      · simp (disch := omega) only [f_X9_spare, hi, bI_t, n_i8, n_i16, n_0, n_31, n_add, n_sub, n_mul, n_neg, n_div, n_rem, n_le_t, n_le_f, n_lt_t, n_lt_f, n_eq_t, n_eq_f, n_cl, n_gd, n_gdt, n_nz, Int.reduceToNat, Int.reduceAdd, Int.reduceSub, Int.reduceMul, Int.reduceNeg, Int.reduceLT, Int.reduceLE, Int.reduceEq, Int.reduceDiv, Int.reduceMod, Nat.reduceAdd, Nat.reduceMul, ↓reduceIte, u_eq, u_no, u_nk, u_ek, u_2, u_3, j_1, j_3, j_eq, j_no, j_nk, ltd, bnd]
      · have hc := hc.2 (fun ha => hn ⟨hf, ha, by omega⟩)
        simp (disch := omega) only [f_X9_spare, hi, hc, bI_t, n_i8, n_i16, n_0, n_31, n_add, n_sub, n_mul, n_neg, n_div, n_rem, n_le_t, n_le_f, n_lt_t, n_lt_f, n_eq_t, n_eq_f, n_cl, n_gd, n_gdt, n_nz, Int.reduceToNat, Int.reduceAdd, Int.reduceSub, Int.reduceMul, Int.reduceNeg, Int.reduceLT, Int.reduceLE, Int.reduceEq, Int.reduceDiv, Int.reduceMod, Nat.reduceAdd, Nat.reduceMul, ↓reduceIte, u_eq, u_no, u_nk, u_ek, u_2, u_3, j_1, j_3, j_eq, j_no, j_nk, ltd, bnd]
    · rw [decide_eq_false hf] at hi
      simp (disch := omega) only [f_X9_spare, hi, bI_f, n_i8, n_i16, n_0, n_31, n_add, n_sub, n_mul, n_neg, n_div, n_rem, n_le_t, n_le_f, n_lt_t, n_lt_f, n_eq_t, n_eq_f, n_cl, n_gd, n_gdt, n_nz, Int.reduceToNat, Int.reduceAdd, Int.reduceSub, Int.reduceMul, Int.reduceNeg, Int.reduceLT, Int.reduceLE, Int.reduceEq, Int.reduceDiv, Int.reduceMod, Nat.reduceAdd, Nat.reduceMul, ↓reduceIte, u_eq, u_no, u_nk, u_ek, u_2, u_3, j_1, j_3, j_eq, j_no, j_nk, ltd, bnd]
/-- the class's rows that are seen -/
def CW (B : Brd) (rn : Int) (rf rv : Int → Int) (s : ST) : Prop := s.1 0 11 = Int32.ofInt rn ∧ (0 ≤ rn ∧ rn ≤ 16) ∧ ∀ i : Int, 0 ≤ i → i < rn → (0 ≤ rf i ∧ rf i < bF B) ∧ (0 ≤ rv i ∧ rv i ≤ 65535) ∧ s.1 59 i.toNat = Int32.ofInt (rf i) ∧ s.1 60 i.toNat = Int32.ofInt (rv i)
theorem CW_fr {B : Brd} {rn : Int} {rf rv : Int → Int} {s s' : ST} (h : CW B rn rf rv s) (h0 : s'.1 0 11 = s.1 0 11) (h1 : ∀ k : Nat, s'.1 59 k = s.1 59 k ∧ s'.1 60 k = s.1 60 k) : CW B rn rf rv s' := ⟨h0.trans h.1, h.2.1, fun i i0 i1 => by
  obtain ⟨a, b, c, d⟩ := h.2.2 i i0 i1
  exact ⟨a, b, (h1 _).1.trans c, (h1 _).2.trans d⟩⟩
theorem c_asSeen_L {B : Brd} {G G' : Gam} {brd : Bool} {p : Nat} {rn : Int} {rf rv : Int → Int} {s : ST} (h : CQ B G brd p s) (hg : GT B G' 46 p s) (hr : CW B rn rf rv s) : ∀ (c F : Nat) (i : Int), 0 ≤ i → (c : Int) = rn - i → c < F → f_X9_isAsSeen_L29 F (Int32.ofInt i) s = some (bI ((upto c i).all (asS G' rf rv)), s) := by
  have hF6 : bF B ≤ 6 := h.1.1.1.1.1.1.1.2.2.2.2.2.2.2.2.2
  intro c
  induction c with
  | zero =>
    intro F i i0 hc hF
    obtain ⟨F, rfl⟩ : ∃ F', F = F' + 1 := ⟨F - 1, by omega⟩
    have h11 := hr.1
    have := hr.2.1
    simp (disch := omega) only [f_X9_isAsSeen_L29, h11, upto, List.all_nil, bI_t, n_i8, n_i16, n_0, n_31, n_add, n_sub, n_mul, n_neg, n_div, n_rem, n_le_t, n_le_f, n_lt_t, n_lt_f, n_eq_t, n_eq_f, n_cl, n_gd, n_gdt, n_nz, Int.reduceToNat, Int.reduceAdd, Int.reduceSub, Int.reduceMul, Int.reduceNeg, Int.reduceLT, Int.reduceLE, Int.reduceEq, Int.reduceDiv, Int.reduceMod, Nat.reduceAdd, Nat.reduceMul, ↓reduceIte, u_eq, u_no, u_nk, u_ek, u_2, u_3, j_1, j_3, j_eq, j_no, j_nk, ltd, bnd]
  | succ c ih =>
    intro F i i0 hc hF
    obtain ⟨F, rfl⟩ : ∃ F', F = F' + 1 := ⟨F - 1, by omega⟩
    have h11 := hr.1
    have hrn := hr.2.1
    obtain ⟨a, b, c1, c2⟩ := hr.2.2 i i0 (by omega)
    have hi := c_isField h (f := rf i) (by omega) (by omega)
    rw [decide_eq_true a] at hi
    have hb : s.1 49 (rf i).toNat = Int32.ofInt (gb G' (rf i)) := hg.2.2 (rf i) a.1 a.2
    have hgb := hg.1.1.2.2.2.2 (rf i) a.1 a.2
    have ih := ih F (i + 1) (by omega) (by omega) (by omega)
    simp only [upto, List.all_cons]
    rw [show asS G' rf rv i = decide (gb G' (rf i) = rv i) from rfl]
    by_cases e : gb G' (rf i) = rv i
    · rw [decide_eq_true e, Bool.true_and, ← ih, f_X9_isAsSeen_L29]
      simp (disch := omega) only [h11, c1, c2, hi, hb, bI_t, n_i8, n_i16, n_0, n_31, n_add, n_sub, n_mul, n_neg, n_div, n_rem, n_le_t, n_le_f, n_lt_t, n_lt_f, n_eq_t, n_eq_f, n_cl, n_gd, n_gdt, n_nz, Int.reduceToNat, Int.reduceAdd, Int.reduceSub, Int.reduceMul, Int.reduceNeg, Int.reduceLT, Int.reduceLE, Int.reduceEq, Int.reduceDiv, Int.reduceMod, Nat.reduceAdd, Nat.reduceMul, ↓reduceIte, u_eq, u_no, u_nk, u_ek, u_2, u_3, j_1, j_3, j_eq, j_no, j_nk, ltd, bnd]
    · rw [decide_eq_false e, Bool.false_and]
      simp (disch := omega) only [f_X9_isAsSeen_L29, h11, c1, c2, hi, hb, bI_t, bI_f, n_i8, n_i16, n_0, n_31, n_add, n_sub, n_mul, n_neg, n_div, n_rem, n_le_t, n_le_f, n_lt_t, n_lt_f, n_eq_t, n_eq_f, n_cl, n_gd, n_gdt, n_nz, Int.reduceToNat, Int.reduceAdd, Int.reduceSub, Int.reduceMul, Int.reduceNeg, Int.reduceLT, Int.reduceLE, Int.reduceEq, Int.reduceDiv, Int.reduceMod, Nat.reduceAdd, Nat.reduceMul, ↓reduceIte, u_eq, u_no, u_nk, u_ek, u_2, u_3, j_1, j_3, j_eq, j_no, j_nk, ltd, bnd]
theorem c_asSeen {B : Brd} {G : Gam} {brd : Bool} {p : Nat} {rn : Int} {rf rv : Int → Int} {s : ST} (h : CQ B G brd p s) (hr : CW B rn rf rv s) {k : Int} (k0 : -2147483648 ≤ k) (k1 : k ≤ 2147483647) : ∃ s', f_X9_isAsSeen (Int32.ofInt k) s = some (bI (asSeen (dayG B G (chz B G k)) rn rf rv), s') ∧ CQ B G brd p s' ∧ XF s s' := by
  obtain ⟨s1, s2, a1, a2, a3, a4, a5, a6, a7, a8⟩ := c_passK h k0 k1
  have hq := CQ_tr h (fun a j x _ _ => a7 a j x) a8
  have hr2 : CW B rn rf rv s2 := CW_fr hr (a7 0 11 (by omega)) (fun k => ⟨a7 59 k (by omega), a7 60 k (by omega)⟩)
  have hrn := hr.2.1
  have hl := c_asSeen_L hq a4 hr2 rn.toNat fuel 0 (by omega) (by omega) (by unfold fuel; omega)
  refine ⟨s2, ?_, hq, ⟨fun a j x y => a7 a j (by omega), a8⟩⟩
  simp (disch := omega) only [f_X9_isAsSeen, a1, a2, a3, hl, u_eq, u_no, u_nk, u_ek, u_2, u_3, j_1, j_3, j_eq, j_no, j_nk, ltd, bnd]
  rfl
theorem c_played_L {B : Brd} {G : Gam} {brd : Bool} {p : Nat} {rn : Int} {rf rv : Int → Int} {w N : Int} (N1 : N ≤ 200) (K : Int32 → Int32 → Int32 → Int32 → ST → Option (Int32 × ST)) : ∀ (c F : Nat) (k : Int) (r : Int × Int × Int) (s : ST), CQ B G brd p s → CW B rn rf rv s → -1 ≤ r.2.1 → r.2.1 ≤ 1000 → 0 ≤ k → (c : Int) = N - k → c < F → ∃ s', CQ B G brd p s' ∧ XF s s' ∧ f_X9_played_L30 K F (Int32.ofInt w) (Int32.ofInt N) (Int32.ofInt r.1) (Int32.ofInt r.2.1) (Int32.ofInt r.2.2) (Int32.ofInt k) s = K (Int32.ofInt w) (Int32.ofInt ((upto c k).foldl (plS B rn rf rv G) r).1) (Int32.ofInt ((upto c k).foldl (plS B rn rf rv G) r).2.1) (Int32.ofInt ((upto c k).foldl (plS B rn rf rv G) r).2.2) s' := by
  intro c
  induction c with
  | zero =>
    intro F k r s h hr r0 r1 k0 hc hF
    obtain ⟨F, rfl⟩ : ∃ F', F = F' + 1 := ⟨F - 1, by omega⟩
    refine ⟨s, h, XF.rf s, ?_⟩
    simp (disch := omega) only [f_X9_played_L30, upto, List.foldl_nil, n_i8, n_i16, n_0, n_31, n_add, n_sub, n_mul, n_neg, n_div, n_rem, n_le_t, n_le_f, n_lt_t, n_lt_f, n_eq_t, n_eq_f, n_cl, n_gd, n_gdt, n_nz, Int.reduceToNat, Int.reduceAdd, Int.reduceSub, Int.reduceMul, Int.reduceNeg, Int.reduceLT, Int.reduceLE, Int.reduceEq, Int.reduceDiv, Int.reduceMod, Nat.reduceAdd, Nat.reduceMul, ↓reduceIte, u_eq, u_no, u_nk, u_ek, u_2, u_3, j_1, j_3, j_eq, j_no, j_nk, ltd, bnd]
  | succ c ih =>
    intro F k r s h hr r0 r1 k0 hc hF
    obtain ⟨F, rfl⟩ : ∃ F', F = F' + 1 := ⟨F - 1, by omega⟩
    obtain ⟨s1, a1, a2, a3⟩ := c_asSeen h hr (k := k) (by omega) (by omega)
    have hr1 : CW B rn rf rv s1 := CW_fr hr (a3.1 0 11 (by omega) (by omega)) (fun k => ⟨a3.1 59 k (by omega) (by omega), a3.1 60 k (by omega) (by omega)⟩)
    simp only [upto, List.foldl_cons]
    have hst : plS B rn rf rv G r k = if asSeen (dayG B G (chz B G k)) rn rf rv = true then (r.1 + 1, if r.2.1 = -1 then k else r.2.1, k) else r := rfl
    cases e : asSeen (dayG B G (chz B G k)) rn rf rv with
    | true =>
      rw [e] at a1
      rw [e, if_pos rfl] at hst
      rw [hst]
      by_cases e2 : r.2.1 = -1
      · rw [if_pos e2]
        obtain ⟨s', q1, q2, q3⟩ := ih F (k + 1) (r.1 + 1, k, k) s1 a2 hr1 (by show -1 ≤ k; omega) (by show k ≤ 1000; omega) (by omega) (by omega) (by omega)
        refine ⟨s', q1, a3.tr q2, ?_⟩
        rw [← q3, f_X9_played_L30, e2]
        simp (disch := omega) only [f_X9_played_j60, a1, bI_t, n_i8, n_i16, n_0, n_31, n_add, n_sub, n_mul, n_neg, n_div, n_rem, n_le_t, n_le_f, n_lt_t, n_lt_f, n_eq_t, n_eq_f, n_cl, n_gd, n_gdt, n_nz, Int.reduceToNat, Int.reduceAdd, Int.reduceSub, Int.reduceMul, Int.reduceNeg, Int.reduceLT, Int.reduceLE, Int.reduceEq, Int.reduceDiv, Int.reduceMod, Nat.reduceAdd, Nat.reduceMul, ↓reduceIte, u_eq, u_no, u_nk, u_ek, u_2, u_3, j_1, j_3, j_eq, j_no, j_nk, ltd, bnd]
      · rw [if_neg e2]
        obtain ⟨s', q1, q2, q3⟩ := ih F (k + 1) (r.1 + 1, r.2.1, k) s1 a2 hr1 r0 r1 (by omega) (by omega) (by omega)
        refine ⟨s', q1, a3.tr q2, ?_⟩
        rw [← q3, f_X9_played_L30]
        simp (disch := omega) only [f_X9_played_j60, a1, bI_t, n_i8, n_i16, n_0, n_31, n_add, n_sub, n_mul, n_neg, n_div, n_rem, n_le_t, n_le_f, n_lt_t, n_lt_f, n_eq_t, n_eq_f, n_cl, n_gd, n_gdt, n_nz, Int.reduceToNat, Int.reduceAdd, Int.reduceSub, Int.reduceMul, Int.reduceNeg, Int.reduceLT, Int.reduceLE, Int.reduceEq, Int.reduceDiv, Int.reduceMod, Nat.reduceAdd, Nat.reduceMul, ↓reduceIte, u_eq, u_no, u_nk, u_ek, u_2, u_3, j_1, j_3, j_eq, j_no, j_nk, ltd, bnd]
    | false =>
      rw [e] at a1
      rw [e, if_neg (by decide)] at hst
      rw [hst]
      obtain ⟨s', q1, q2, q3⟩ := ih F (k + 1) r s1 a2 hr1 r0 r1 (by omega) (by omega) (by omega)
      refine ⟨s', q1, a3.tr q2, ?_⟩
      rw [← q3, f_X9_played_L30]
      simp (disch := omega) only [a1, bI_f, n_i8, n_i16, n_0, n_31, n_add, n_sub, n_mul, n_neg, n_div, n_rem, n_le_t, n_le_f, n_lt_t, n_lt_f, n_eq_t, n_eq_f, n_cl, n_gd, n_gdt, n_nz, Int.reduceToNat, Int.reduceAdd, Int.reduceSub, Int.reduceMul, Int.reduceNeg, Int.reduceLT, Int.reduceLE, Int.reduceEq, Int.reduceDiv, Int.reduceMod, Nat.reduceAdd, Nat.reduceMul, ↓reduceIte, u_eq, u_no, u_nk, u_ek, u_2, u_3, j_1, j_3, j_eq, j_no, j_nk, ltd, bnd]
theorem c_played {B : Brd} {G : Gam} {brd : Bool} {p : Nat} {rn : Int} {rf rv : Int → Int} {s : ST} (h : CQ B G brd p s) (hr : CW B rn rf rv s) {w : Int} (w1 : -2147483648 ≤ w) (w2 : w ≤ 2147483647) : ((0 ≤ w ∧ w ≤ 2) → ∃ s', f_X9_played (Int32.ofInt w) s = some (Int32.ofInt (aPlayed B rn rf rv G w (mvN B G)), s') ∧ CQ B G brd p s' ∧ XF s s') ∧ (¬ (0 ≤ w ∧ w ≤ 2) → f_X9_played (Int32.ofInt w) s = some (Int32.ofInt (-1), s)) := by
  constructor
  · intro hw
    have hmc := c_moveCount h.1.1.1 h.1.1.2.1
    have hNb := mvN_b h.1.1.1.1.1 (G := G)
    obtain ⟨s', q1, q2, q3⟩ := c_played_L (w := w) (N := mvN B G) hNb.2 f_X9_played_j72 (mvN B G).toNat fuel 0 (0, -1, -1) s h hr (by show (-1 : Int) ≤ -1; omega) (by show (-1 : Int) ≤ 1000; omega) (by omega) (by omega) (by unfold fuel; omega)
    have q3 : f_X9_played_L30 f_X9_played_j72 fuel (Int32.ofInt w) (Int32.ofInt (mvN B G)) (Int32.ofInt 0) (Int32.ofInt (-1)) (Int32.ofInt (-1)) (Int32.ofInt 0) s = f_X9_played_j72 (Int32.ofInt w) (Int32.ofInt (plR B rn rf rv G (mvN B G)).1) (Int32.ofInt (plR B rn rf rv G (mvN B G)).2.1) (Int32.ofInt (plR B rn rf rv G (mvN B G)).2.2) s' := q3
    refine ⟨s', ?_, q1, q2⟩
    have : w = 0 ∨ w = 1 ∨ w = 2 := by omega
    rcases this with rfl | rfl | rfl
    · simp (disch := omega) only [f_X9_played, f_X9_played_j72, aPlayed, hmc, q3, n_i8, n_i16, n_0, n_31, n_add, n_sub, n_mul, n_neg, n_div, n_rem, n_le_t, n_le_f, n_lt_t, n_lt_f, n_eq_t, n_eq_f, n_cl, n_gd, n_gdt, n_nz, Int.reduceToNat, Int.reduceAdd, Int.reduceSub, Int.reduceMul, Int.reduceNeg, Int.reduceLT, Int.reduceLE, Int.reduceEq, Int.reduceDiv, Int.reduceMod, Nat.reduceAdd, Nat.reduceMul, ↓reduceIte, u_eq, u_no, u_nk, u_ek, u_2, u_3, j_1, j_3, j_eq, j_no, j_nk, ltd, bnd]
    · simp (disch := omega) only [f_X9_played, f_X9_played_j72, aPlayed, hmc, q3, n_i8, n_i16, n_0, n_31, n_add, n_sub, n_mul, n_neg, n_div, n_rem, n_le_t, n_le_f, n_lt_t, n_lt_f, n_eq_t, n_eq_f, n_cl, n_gd, n_gdt, n_nz, Int.reduceToNat, Int.reduceAdd, Int.reduceSub, Int.reduceMul, Int.reduceNeg, Int.reduceLT, Int.reduceLE, Int.reduceEq, Int.reduceDiv, Int.reduceMod, Nat.reduceAdd, Nat.reduceMul, ↓reduceIte, u_eq, u_no, u_nk, u_ek, u_2, u_3, j_1, j_3, j_eq, j_no, j_nk, ltd, bnd]
    · simp (disch := omega) only [f_X9_played, f_X9_played_j72, aPlayed, hmc, q3, n_i8, n_i16, n_0, n_31, n_add, n_sub, n_mul, n_neg, n_div, n_rem, n_le_t, n_le_f, n_lt_t, n_lt_f, n_eq_t, n_eq_f, n_cl, n_gd, n_gdt, n_nz, Int.reduceToNat, Int.reduceAdd, Int.reduceSub, Int.reduceMul, Int.reduceNeg, Int.reduceLT, Int.reduceLE, Int.reduceEq, Int.reduceDiv, Int.reduceMod, Nat.reduceAdd, Nat.reduceMul, ↓reduceIte, u_eq, u_no, u_nk, u_ek, u_2, u_3, j_1, j_3, j_eq, j_no, j_nk, ltd, bnd]
  · intro hn
    by_cases e1 : w < 0
    · simp (disch := omega) only [f_X9_played, n_i8, n_i16, n_0, n_31, n_add, n_sub, n_mul, n_neg, n_div, n_rem, n_le_t, n_le_f, n_lt_t, n_lt_f, n_eq_t, n_eq_f, n_cl, n_gd, n_gdt, n_nz, Int.reduceToNat, Int.reduceAdd, Int.reduceSub, Int.reduceMul, Int.reduceNeg, Int.reduceLT, Int.reduceLE, Int.reduceEq, Int.reduceDiv, Int.reduceMod, Nat.reduceAdd, Nat.reduceMul, ↓reduceIte, u_eq, u_no, u_nk, u_ek, u_2, u_3, j_1, j_3, j_eq, j_no, j_nk, ltd, bnd]
    · simp (disch := omega) only [f_X9_played, n_i8, n_i16, n_0, n_31, n_add, n_sub, n_mul, n_neg, n_div, n_rem, n_le_t, n_le_f, n_lt_t, n_lt_f, n_eq_t, n_eq_f, n_cl, n_gd, n_gdt, n_nz, Int.reduceToNat, Int.reduceAdd, Int.reduceSub, Int.reduceMul, Int.reduceNeg, Int.reduceLT, Int.reduceLE, Int.reduceEq, Int.reduceDiv, Int.reduceMod, Nat.reduceAdd, Nat.reduceMul, ↓reduceIte, u_eq, u_no, u_nk, u_ek, u_2, u_3, j_1, j_3, j_eq, j_no, j_nk, ltd, bnd]
