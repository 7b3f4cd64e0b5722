/-! L3: the reference reads SUMS: steps -/
theorem m_tsignL {T : Int → Int} {n : Int} {c : Cur} {s : ST} (h : RLk T n c s) {ch : Int} (c0 : 0 ≤ ch) (c1 : ch ≤ 255) (hn : isSg T n c ch = false) : f_X10_takesSign (Int32.ofInt ch) s = some (Int32.ofInt 0, s) := by
  have q := m_lookL h
  have hb := h.b
  have hlb := lkV_b (f := frm T n c) hb.2.2.2 (by omega)
  have hne : ¬ lkV T n (frm T n c) = ch := by
    intro x
    unfold isSg at hn
    unfold lkV at x
    by_cases e : frm T n c < n
    · rw [if_pos e] at x
      rw [decide_eq_true e, decide_eq_true x] at hn
      cases hn
    · rw [if_neg e] at x; omega
  have h5 := hb.1
  simp (disch := omega) only [f_X10_takesSign, h5, q, n_i8, n_i16, n_0, n_31, n_add, n_sub, n_mul, n_neg, n_div, n_rem, n_le_t, n_le_f, n_lt_t, n_lt_f, n_eq_t, n_eq_f, n_cl, n_gd, n_gdt, n_nz, Int.reduceToNat, Int.reduceAdd, Int.reduceSub, Int.reduceMul, Int.reduceNeg, Int.reduceLT, Int.reduceLE, Int.reduceEq, Int.reduceDiv, Int.reduceMod, Nat.reduceAdd, Nat.reduceMul, ↓reduceIte, u_eq, u_no, u_nk, u_ek, u_2, u_3, j_1, j_3, j_eq, j_no, j_nk, ltd, bnd]
theorem sg_lk {T : Int → Int} {n : Int} {c : Cur} {ch : Int} (c0 : 0 ≤ ch) : isSg T n c ch = decide (lkV T n (frm T n c) = ch) := by
  unfold isSg lkV
  by_cases e : frm T n c < n
  · rw [if_pos e, decide_eq_true e, Bool.true_and]
  · rw [if_neg e, decide_eq_false e, Bool.false_and, decide_eq_false (by omega)]
def MZ (T : Int → Int) (n : Int) (m : Bool) (b : Int) (c : Cur) (cs W : List Int) (o : Int) (s : ST) : Prop := RC T n c s ∧ WDS s ∧ QS cs W o s ∧ (s.1 65 59 = bI (!m) ∧ s.1 65 115 = Int32.ofInt b ∧ 0 ≤ b ∧ b ≤ (W.length : Int)) ∧ (cs.length : Int) + (W.length : Int) ≤ c.1
theorem MZ.nb {T : Int → Int} {n : Int} {m : Bool} {b : Int} {c : Cur} {cs W : List Int} {o : Int} {s : ST} (h : MZ T n m b c cs W o s) : 0 ≤ c.1 ∧ c.1 ≤ n ∧ n ≤ 1600 := by
  have := h.1.b.2.1
  omega
theorem MZ.w {T : Int → Int} {n : Int} {m : Bool} {b : Int} {c : Cur} {cs W cs' W' : List Int} {o o' : Int} {s s' : ST} (h : MZ T n m b c cs W o s) (hf : QWf s s') (hq : QS cs' W' o' s') (hb : b ≤ (W'.length : Int)) (hl : (cs'.length : Int) + (W'.length : Int) ≤ c.1) : MZ T n m b c cs' W' o' s' := by
  obtain ⟨h1, h2, h3, ⟨h4, h5, h6, h7⟩, h8⟩ := h
  exact ⟨RC_fr h1 (hf.1 65 2 (by omega) (by omega) (by omega)) (hf.1 65 3 (by omega) (by omega) (by omega)) (hf.1 65 4 (by omega) (by omega) (by omega)) (hf.1 65 5 (by omega) (by omega) (by omega)) (hf.1 65 6 (by omega) (by omega) (by omega)) (fun k => hf.1 66 k (by omega) (by omega) (by omega)), WDS_fr h2 (fun o k ho => hf.1 o k (by omega) (by omega) (by omega)), hq, ⟨(hf.1 65 59 (by omega) (by omega) (by omega)).trans h4, (hf.1 65 115 (by omega) (by omega) (by omega)).trans h5, h6, hb⟩, hl⟩
theorem MZ.p {T : Int → Int} {n : Int} {m : Bool} {b : Int} {c c' : Cur} {cs W : List Int} {o : Int} {s s' : ST} (h : MZ T n m b c cs W o s) (hf : RPf s s') (hc : RC T n c' s') (hl : c.1 ≤ c'.1) : MZ T n m b c' cs W o s' := by
  obtain ⟨h1, h2, h3, ⟨h4, h5, h6, h7⟩, h8⟩ := h
  exact ⟨hc, WDS_fr h2 (fun o k ho => hf.1 o k (by omega)), QS_fr h3 hf, ⟨(hf.1 65 59 (by omega)).trans h4, (hf.1 65 115 (by omega)).trans h5, h6, h7⟩, by omega⟩
theorem m_lookQ {T : Int → Int} {n : Int} {m : Bool} {b : Int} {c : Cur} {cs W : List Int} {o : Int} {s : ST} (h : MZ T n m b c cs W o s) : ∃ s1, f_X10_look s = some (Int32.ofInt (lkV T n (frm T n c)), s1) ∧ RLk T n c s1 ∧ MZ T n m b c cs W o s1 ∧ RQf s s1 := by
  obtain ⟨s1, q1, q2, q3⟩ := m_look h.1
  exact ⟨s1, q1, q2, h.p q3.rp q2.rc (Int.le_refl _), q3.q⟩
/-- how many codes there are, when all is told -/
def QN (s : ST) : Prop := ∃ N : Int, 0 ≤ N ∧ N ≤ 1650 ∧ s.1 65 111 = Int32.ofInt N
theorem QN.mk {T : Int → Int} {n : Int} {m : Bool} {b : Int} {c : Cur} {cs W : List Int} {o : Int} {s s' : ST} (h : MZ T n m b c cs W o s) (hf : RPf s s') : QN s' := by
  have hn := h.nb
  have hs := h.2.2.2.2
  exact ⟨cs.length, by omega, by omega, (hf.1 65 111 (by omega)).trans h.2.2.1.1.1⟩
theorem QN.qs {cs W : List Int} {o : Int} {s : ST} (h : QS cs W o s) (hl : (cs.length : Int) ≤ 1650) : QN s := ⟨cs.length, by omega, hl, h.1.1⟩
section SM
variable (K : Int32 → ST → Option ST) (x1 : Int32)
def rst (F2 : Nat) (q : Int32 × ST) : Option ST := if q.1 = 0 then f_X10_qSums_L15 K F2 x1 (Int32.ofInt 0) q.2 else f_X10_qSums_L15 K F2 x1 (Int32.ofInt 1) q.2
def GM (F3 F2 : Nat) (s : ST) : Option ST := (f_X10_qGoesOn_L0 f_X10_qGoesOn_j122 F3 s).bind (rst K x1 F2)
def G1 (F2 : Nat) (s : ST) : Option ST := if (s.1 65 5) = 0 then (f_X10_qGoesOn s).bind (rst K x1 F2) else f_X10_qSums_L15 K F2 x1 (Int32.ofInt 0) s
def PM (F1 F2 : Nat) (s : ST) : Option ST := (f_X10_qPartTold_L2 f_X10_qPartTold_j186 F1 (Int32.ofInt 1) s).bind (G1 K x1 F2)
end SM
variable {K : Int32 → ST → Option ST} {x1 : Int32}
theorem r15_0 (F2 : Nat) (s : ST) : f_X10_qSums_L15 K (F2 + 1) x1 (Int32.ofInt 0) s = K x1 s := by
  rw [f_X10_qSums_L15]
  simp (disch := omega) only [n_i8, n_i16, n_0, n_31, n_add, n_sub, n_mul, n_neg, n_div, n_rem, n_le_t, n_le_f, n_lt_t, n_lt_f, n_eq_t, n_eq_f, n_cl, n_gd, n_gdt, n_nz, Int.reduceToNat, Int.reduceAdd, Int.reduceSub, Int.reduceMul, Int.reduceNeg, Int.reduceLT, Int.reduceLE, Int.reduceEq, Int.reduceDiv, Int.reduceMod, Nat.reduceAdd, Nat.reduceMul, ↓reduceIte]
theorem r15_1 {F2 : Nat} {s : ST} (h : s.1 65 5 = Int32.ofInt 0) : f_X10_qSums_L15 K (F2 + 1) x1 (Int32.ofInt 1) s = PM K x1 fuel F2 s := by
  rw [f_X10_qSums_L15]
  simp (disch := omega) only [h, n_i8, n_i16, n_0, n_31, n_add, n_sub, n_mul, n_neg, n_div, n_rem, n_le_t, n_le_f, n_lt_t, n_lt_f, n_eq_t, n_eq_f, n_cl, n_gd, n_gdt, n_nz, Int.reduceToNat, Int.reduceAdd, Int.reduceSub, Int.reduceMul, Int.reduceNeg, Int.reduceLT, Int.reduceLE, Int.reduceEq, Int.reduceDiv, Int.reduceMod, Nat.reduceAdd, Nat.reduceMul, ↓reduceIte]
  rfl
theorem rst_0 (F2 : Nat) (s : ST) : rst K x1 (F2 + 1) (Int32.ofInt 0, s) = K x1 s := by
  unfold rst
  rw [if_pos (show ((Int32.ofInt 0, s) : Int32 × ST).1 = 0 from rfl)]
  exact r15_0 F2 s
theorem rst_1 {F2 : Nat} {s : ST} (h : s.1 65 5 = Int32.ofInt 0) : rst K x1 (F2 + 1) (Int32.ofInt 1, s) = PM K x1 fuel F2 s := by
  unfold rst
  rw [if_neg (show ¬ ((Int32.ofInt 1, s) : Int32 × ST).1 = 0 from by show ¬ Int32.ofInt 1 = 0; decide)]
  exact r15_1 h
theorem G1_g {F2 : Nat} {s : ST} (h : s.1 65 5 = Int32.ofInt 0) : G1 K x1 F2 s = GM K x1 fuel F2 s := by
  unfold G1
  rw [if_pos (show s.1 65 5 = 0 from h)]
  rfl
theorem G1_b {F2 : Nat} {k p : Int} {s : ST} (h : RB k p s) : G1 K x1 (F2 + 1) s = K x1 s := by
  unfold G1
  rw [if_neg h.ne]
  exact r15_0 F2 s
def fu (n : Int) (c : Cur) (F : Nat) : Prop := n - c.1 + 3 ≤ (F : Int)
theorem fu_m {n : Int} {c c' : Cur} {F : Nat} (h : fu n c (F + 1)) (hc : c.1 < c'.1) : fu n c' F := by unfold fu at *; omega
theorem fu_w {n : Int} {c c' : Cur} {F : Nat} (h : fu n c F) (hc : c.1 ≤ c'.1) : fu n c' F := by unfold fu at *; omega
theorem fu_f {n : Int} {c : Cur} (h0 : 0 ≤ c.1) (hn : n ≤ 1600) : fu n c fuel := by unfold fu fuel; omega
variable {T : Int → Int} {n : Int} {m : Bool}
/-- a sign is passed -/
theorem m_pass {b : Int} {c : Cur} {cs W : List Int} {o ch : Int} {s : ST} (h : MZ T n m b c cs W o s) (c0 : 0 ≤ ch) (c1 : ch ≤ 255) (hs : isSg T n c ch = true) : ∃ s1, f_X10_takesSign (Int32.ofInt ch) s = some (Int32.ofInt 1, s1) ∧ MZ T n m b (nxS T n c) cs W o s1 ∧ s1.1 65 2 = Int32.ofInt (frm T n c + 1) ∧ RQf s s1 := by
  have hn := h.nb
  obtain ⟨s1, q1, q2, q3, q4⟩ := m_tsign h.1 c0 c1
  rw [hs] at q1
  have hsb := sg_b hs hn.1 hn.2.1
  exact ⟨s1, q1, h.p q4.rp (q2 hs).1 (by omega), (q2 hs).2, q4.q⟩
theorem T_sg {c : Cur} {ch : Int} (hs : isSg T n c ch = true) : frm T n c < n ∧ T (frm T n c) = ch := by
  unfold isSg at hs
  rw [Bool.and_eq_true, decide_eq_true_iff, decide_eq_true_iff] at hs
  exact hs
theorem m_push {b : Int} {c : Cur} {cs W : List Int} {o z : Int} {s : ST} (h : MZ T n m b c cs W o s) (z0 : 0 ≤ z) (z1 : z ≤ 100) (hl : (cs.length : Int) + (W.length : Int) + 1 ≤ c.1) : ∃ s1, gd (ib (s.1 65 113) 1700) (lt (uI (uI s 147 (s.1 65 113).toNatClampNeg (Int32.ofInt z)) 65 113 (((uI s 147 (s.1 65 113).toNatClampNeg (Int32.ofInt z)).1 65 113) + (Int32.ofInt 1))) (fun s59 => some ((Int32.ofInt 1), s59))) = some (Int32.ofInt 1, s1) ∧ MZ T n m b c cs (W ++ [z]) o s1 ∧ QWf s s1 := by
  have hn := h.nb
  obtain ⟨a1, a2⟩ := h.2.2.1.psh z0 z1
  have h3 := h.2.2.1.2.1.1
  refine ⟨_, ?_, h.w a2 a1 (by rw [ln1]; have := h.2.2.2.1.2.2.2; omega) (by rw [ln1]; omega), a2⟩
  have ecl : (Int32.ofInt (W.length : Int)).toNatClampNeg = W.length := by rw [n_cl (by omega) (by omega)]; omega
  have egd : ∀ {α : Type} {y : Option α}, gd (ib (Int32.ofInt (W.length : Int)) 1700) y = y := by intro α y; exact n_gd (by omega) (by omega) (by omega)
  simp (disch := omega) only [h3, ecl, egd, n_i8, n_i16, n_0, n_31, n_add, n_sub, n_mul, n_neg, n_div, n_rem, n_le_t, n_le_f, n_lt_t, n_lt_f, n_eq_t, n_eq_f, n_cl, n_gd, n_gdt, n_nz, Int.reduceToNat, Int.reduceAdd, Int.reduceSub, Int.reduceMul, Int.reduceNeg, Int.reduceLT, Int.reduceLE, Int.reduceEq, Int.reduceDiv, Int.reduceMod, Nat.reduceAdd, Nat.reduceMul, ↓reduceIte, u_eq, u_no, u_nk, u_ek, u_2, u_3, j_1, j_3, j_eq, j_no, j_nk, ltd, bnd]
/-- what goes on: * and / -/
theorem G_mul {b : Int} {c : Cur} {cs W r : List Int} {o z ch : Int} {s : ST} {F3 F2 : Nat} (h : MZ T n m b c cs (W ++ r.reverse) o s) (hr : ∀ v ∈ r, v = 3 ∨ v = 4) (hT : ¬ tp W = 3 ∧ ¬ tp W = 4) (hb : b ≤ (W.length : Int)) (hz : (z = 3 ∧ ch = 42) ∨ (z = 4 ∧ ch = 47)) (hs : isSg T n c ch = true) : ∃ s', GM K x1 (F3 + 1) (F2 + 1) s = PM K x1 fuel F2 s' ∧ MZ T n m b (nxS T n c) (cs ++ r) (W ++ [z]) o s' ∧ RQf s s' := by
  have hn := h.nb
  have hTs := T_sg hs
  have hsb := sg_b hs hn.1 hn.2.1
  have hlen : (W ++ r.reverse).length = W.length + r.length := by rw [List.length_append, List.length_reverse]
  obtain ⟨s1, q1, q2, q3, q4⟩ := m_lookQ h
  have elk : lkV T n (frm T n c) = ch := of_decide_eq_true (by rw [← sg_lk (by omega)]; exact hs)
  rw [elk] at q1
  have hbad := h.1.b.1
  obtain ⟨s2, p1, p2, p3, p4⟩ := m_pass q3 (ch := ch) (by omega) (by omega) hs
  have htc := (p2.1.b.2.2 (frm T n c) (by have := q2.b.2.2.1; omega) hTs.1).1
  rw [hTs.2] at htc
  have hfb := q2.b.2.2.1
  obtain ⟨s3, r1, r2, r3⟩ := m_q162_L hT (Int32.ofInt z) r fuel cs o s2 p2.2.2.1 (by have := p2.2.2.2.2; have := p2.nb; omega) hr (by have := p2.2.2.2.2; have := p2.nb; unfold fuel; omega)
  have hM3 : MZ T n m b (nxS T n c) (cs ++ r) W o s3 := p2.w r3 r2 hb (by rw [List.length_append]; have := p2.2.2.2.2; omega)
  obtain ⟨s4, t1, t2, t3⟩ := m_push hM3 (z := z) (by omega) (by omega) (by rw [List.length_append]; have := h.2.2.2.2; omega)
  refine ⟨s4, ?_, t2, ((q4.tr p4).tr r3.q).tr t3.q⟩
  have t1 : f_X10_qGoesOn_j185 (Int32.ofInt z) s3 = some (Int32.ofInt 1, s4) := t1
  have ej : f_X10_qGoesOn_j140 s2 = some (Int32.ofInt 1, s4) := by
    rw [← t1, ← r1]
    rw [show frm T n c + 1 = frm T n c + 1 from rfl] at p3
    have e3 : s2.1 65 2 - Int32.ofInt 1 = Int32.ofInt (frm T n c) := by rw [p3, n_sub, show frm T n c + 1 - 1 = frm T n c by omega]
    rcases hz with ⟨rfl, rfl⟩ | ⟨rfl, rfl⟩
    · simp (disch := omega) only [f_X10_qGoesOn_j140, f_X10_qGoesOn_j161, e3, htc, n_i8, n_i16, n_0, n_31, n_add, n_sub, n_mul, n_neg, n_div, n_rem, n_le_t, n_le_f, n_lt_t, n_lt_f, n_eq_t, n_eq_f, n_cl, n_gd, n_gdt, n_nz, Int.reduceToNat, Int.reduceAdd, Int.reduceSub, Int.reduceMul, Int.reduceNeg, Int.reduceLT, Int.reduceLE, Int.reduceEq, Int.reduceDiv, Int.reduceMod, Nat.reduceAdd, Nat.reduceMul, ↓reduceIte, u_eq, u_no, u_nk, u_ek, u_2, u_3, j_1, j_3, j_eq, j_no, j_nk, ltd, bnd]
    · simp (disch := omega) only [f_X10_qGoesOn_j140, f_X10_qGoesOn_j161, e3, htc, n_i8, n_i16, n_0, n_31, n_add, n_sub, n_mul, n_neg, n_div, n_rem, n_le_t, n_le_f, n_lt_t, n_lt_f, n_eq_t, n_eq_f, n_cl, n_gd, n_gdt, n_nz, Int.reduceToNat, Int.reduceAdd, Int.reduceSub, Int.reduceMul, Int.reduceNeg, Int.reduceLT, Int.reduceLE, Int.reduceEq, Int.reduceDiv, Int.reduceMod, Nat.reduceAdd, Nat.reduceMul, ↓reduceIte, u_eq, u_no, u_nk, u_ek, u_2, u_3, j_1, j_3, j_eq, j_no, j_nk, ltd, bnd]
  have eL : f_X10_qGoesOn_L0 f_X10_qGoesOn_j122 (F3 + 1) s = some (Int32.ofInt 1, s4) := by
    rw [← ej]
    rcases hz with ⟨rfl, rfl⟩ | ⟨rfl, rfl⟩
    · (rw [show f_X10_qGoesOn_L0 f_X10_qGoesOn_j122 (F3 + 1) s = f_X10_qGoesOn_j122 s1 by simp (disch := omega) only [f_X10_qGoesOn_L0, hbad, q1, n_i8, n_i16, n_0, n_31, n_add, n_sub, n_mul, n_neg, n_div, n_rem, n_le_t, n_le_f, n_lt_t, n_lt_f, n_eq_t, n_eq_f, n_cl, n_gd, n_gdt, n_nz, Int.reduceToNat, Int.reduceAdd, Int.reduceSub, Int.reduceMul, Int.reduceNeg, Int.reduceLT, Int.reduceLE, Int.reduceEq, Int.reduceDiv, Int.reduceMod, Nat.reduceAdd, Nat.reduceMul, ↓reduceIte, u_eq, u_no, u_nk, u_ek, u_2, u_3, j_1, j_3, j_eq, j_no, j_nk, ltd, bnd]]; simp (disch := omega) only [f_X10_qGoesOn_j122, p1, n_i8, n_i16, n_0, n_31, n_add, n_sub, n_mul, n_neg, n_div, n_rem, n_le_t, n_le_f, n_lt_t, n_lt_f, n_eq_t, n_eq_f, n_cl, n_gd, n_gdt, n_nz, Int.reduceToNat, Int.reduceAdd, Int.reduceSub, Int.reduceMul, Int.reduceNeg, Int.reduceLT, Int.reduceLE, Int.reduceEq, Int.reduceDiv, Int.reduceMod, Nat.reduceAdd, Nat.reduceMul, ↓reduceIte, u_eq, u_no, u_nk, u_ek, u_2, u_3, j_1, j_3, j_eq, j_no, j_nk, ltd, bnd])
    · have n42 := m_tsignL q2 (ch := 42) (by omega) (by omega) (by rw [sg_lk (by omega), elk]; rfl)
      (rw [show f_X10_qGoesOn_L0 f_X10_qGoesOn_j122 (F3 + 1) s = f_X10_qGoesOn_j122 s1 by simp (disch := omega) only [f_X10_qGoesOn_L0, hbad, q1, n_i8, n_i16, n_0, n_31, n_add, n_sub, n_mul, n_neg, n_div, n_rem, n_le_t, n_le_f, n_lt_t, n_lt_f, n_eq_t, n_eq_f, n_cl, n_gd, n_gdt, n_nz, Int.reduceToNat, Int.reduceAdd, Int.reduceSub, Int.reduceMul, Int.reduceNeg, Int.reduceLT, Int.reduceLE, Int.reduceEq, Int.reduceDiv, Int.reduceMod, Nat.reduceAdd, Nat.reduceMul, ↓reduceIte, u_eq, u_no, u_nk, u_ek, u_2, u_3, j_1, j_3, j_eq, j_no, j_nk, ltd, bnd]]; simp (disch := omega) only [f_X10_qGoesOn_j122, p1, n42, n_i8, n_i16, n_0, n_31, n_add, n_sub, n_mul, n_neg, n_div, n_rem, n_le_t, n_le_f, n_lt_t, n_lt_f, n_eq_t, n_eq_f, n_cl, n_gd, n_gdt, n_nz, Int.reduceToNat, Int.reduceAdd, Int.reduceSub, Int.reduceMul, Int.reduceNeg, Int.reduceLT, Int.reduceLE, Int.reduceEq, Int.reduceDiv, Int.reduceMod, Nat.reduceAdd, Nat.reduceMul, ↓reduceIte, u_eq, u_no, u_nk, u_ek, u_2, u_3, j_1, j_3, j_eq, j_no, j_nk, ltd, bnd])
  unfold GM
  rw [eL, bnd]
  exact rst_1 t2.1.b.1
theorem G_add {b : Int} {c : Cur} {cs W r : List Int} {o z ch : Int} {s : ST} {F3 F2 : Nat} (h : MZ T n m b c cs (W ++ r.reverse) o s) (hr : ∀ v ∈ r, 1 ≤ v ∧ v ≤ 4) (hT : ¬ (1 ≤ tp W ∧ tp W ≤ 4)) (hb : b ≤ (W.length : Int)) (hz : (z = 1 ∧ ch = 43) ∨ (z = 2 ∧ ch = 45)) (hs : isSg T n c ch = true) : ∃ s', GM K x1 (F3 + 1) (F2 + 1) s = PM K x1 fuel F2 s' ∧ MZ T n m b (nxS T n c) (cs ++ r) (W ++ [z]) o s' ∧ RQf s s' := by
  have hn := h.nb
  have hTs := T_sg hs
  have hsb := sg_b hs hn.1 hn.2.1
  have hlen : (W ++ r.reverse).length = W.length + r.length := by rw [List.length_append, List.length_reverse]
  obtain ⟨s1, q1, q2, q3, q4⟩ := m_lookQ h
  have elk : lkV T n (frm T n c) = ch := of_decide_eq_true (by rw [← sg_lk (by omega)]; exact hs)
  rw [elk] at q1
  have hbad := h.1.b.1
  obtain ⟨s2, p1, p2, p3, p4⟩ := m_pass q3 (ch := ch) (by omega) (by omega) hs
  have htc := (p2.1.b.2.2 (frm T n c) (by have := q2.b.2.2.1; omega) hTs.1).1
  rw [hTs.2] at htc
  have hfb := q2.b.2.2.1
  obtain ⟨s3, r1, r2, r3⟩ := m_q247_L hT (Int32.ofInt z) r fuel cs o s2 p2.2.2.1 (by have := p2.2.2.2.2; have := p2.nb; omega) hr (by have := p2.2.2.2.2; have := p2.nb; unfold fuel; omega)
  have hM3 : MZ T n m b (nxS T n c) (cs ++ r) W o s3 := p2.w r3 r2 hb (by rw [List.length_append]; have := p2.2.2.2.2; omega)
  obtain ⟨s4, t1, t2, t3⟩ := m_push hM3 (z := z) (by omega) (by omega) (by rw [List.length_append]; have := h.2.2.2.2; omega)
  refine ⟨s4, ?_, t2, ((q4.tr p4).tr r3.q).tr t3.q⟩
  have t1 : f_X10_qGoesOn_j286 (Int32.ofInt z) s3 = some (Int32.ofInt 1, s4) := t1
  have ej : f_X10_qGoesOn_j225 s2 = some (Int32.ofInt 1, s4) := by
    rw [← t1, ← r1]
    have e3 : s2.1 65 2 - Int32.ofInt 1 = Int32.ofInt (frm T n c) := by rw [p3, n_sub, show frm T n c + 1 - 1 = frm T n c by omega]
    rcases hz with ⟨rfl, rfl⟩ | ⟨rfl, rfl⟩
    · simp (disch := omega) only [f_X10_qGoesOn_j225, f_X10_qGoesOn_j246, e3, htc, n_i8, n_i16, n_0, n_31, n_add, n_sub, n_mul, n_neg, n_div, n_rem, n_le_t, n_le_f, n_lt_t, n_lt_f, n_eq_t, n_eq_f, n_cl, n_gd, n_gdt, n_nz, Int.reduceToNat, Int.reduceAdd, Int.reduceSub, Int.reduceMul, Int.reduceNeg, Int.reduceLT, Int.reduceLE, Int.reduceEq, Int.reduceDiv, Int.reduceMod, Nat.reduceAdd, Nat.reduceMul, ↓reduceIte, u_eq, u_no, u_nk, u_ek, u_2, u_3, j_1, j_3, j_eq, j_no, j_nk, ltd, bnd]
    · simp (disch := omega) only [f_X10_qGoesOn_j225, f_X10_qGoesOn_j246, e3, htc, n_i8, n_i16, n_0, n_31, n_add, n_sub, n_mul, n_neg, n_div, n_rem, n_le_t, n_le_f, n_lt_t, n_lt_f, n_eq_t, n_eq_f, n_cl, n_gd, n_gdt, n_nz, Int.reduceToNat, Int.reduceAdd, Int.reduceSub, Int.reduceMul, Int.reduceNeg, Int.reduceLT, Int.reduceLE, Int.reduceEq, Int.reduceDiv, Int.reduceMod, Nat.reduceAdd, Nat.reduceMul, ↓reduceIte, u_eq, u_no, u_nk, u_ek, u_2, u_3, j_1, j_3, j_eq, j_no, j_nk, ltd, bnd]
  have eL : f_X10_qGoesOn_L0 f_X10_qGoesOn_j122 (F3 + 1) s = some (Int32.ofInt 1, s4) := by
    rw [← ej]
    rcases hz with ⟨rfl, rfl⟩ | ⟨rfl, rfl⟩
    · have n42 := m_tsignL q2 (ch := 42) (by omega) (by omega) (by rw [sg_lk (by omega), elk]; rfl)
      have n47 := m_tsignL q2 (ch := 47) (by omega) (by omega) (by rw [sg_lk (by omega), elk]; rfl)
      (rw [show f_X10_qGoesOn_L0 f_X10_qGoesOn_j122 (F3 + 1) s = f_X10_qGoesOn_j122 s1 by simp (disch := omega) only [f_X10_qGoesOn_L0, hbad, q1, n_i8, n_i16, n_0, n_31, n_add, n_sub, n_mul, n_neg, n_div, n_rem, n_le_t, n_le_f, n_lt_t, n_lt_f, n_eq_t, n_eq_f, n_cl, n_gd, n_gdt, n_nz, Int.reduceToNat, Int.reduceAdd, Int.reduceSub, Int.reduceMul, Int.reduceNeg, Int.reduceLT, Int.reduceLE, Int.reduceEq, Int.reduceDiv, Int.reduceMod, Nat.reduceAdd, Nat.reduceMul, ↓reduceIte, u_eq, u_no, u_nk, u_ek, u_2, u_3, j_1, j_3, j_eq, j_no, j_nk, ltd, bnd]]; simp (disch := omega) only [f_X10_qGoesOn_j122, p1, n42, n47, n_i8, n_i16, n_0, n_31, n_add, n_sub, n_mul, n_neg, n_div, n_rem, n_le_t, n_le_f, n_lt_t, n_lt_f, n_eq_t, n_eq_f, n_cl, n_gd, n_gdt, n_nz, Int.reduceToNat, Int.reduceAdd, Int.reduceSub, Int.reduceMul, Int.reduceNeg, Int.reduceLT, Int.reduceLE, Int.reduceEq, Int.reduceDiv, Int.reduceMod, Nat.reduceAdd, Nat.reduceMul, ↓reduceIte, u_eq, u_no, u_nk, u_ek, u_2, u_3, j_1, j_3, j_eq, j_no, j_nk, ltd, bnd])
    · have n42 := m_tsignL q2 (ch := 42) (by omega) (by omega) (by rw [sg_lk (by omega), elk]; rfl)
      have n47 := m_tsignL q2 (ch := 47) (by omega) (by omega) (by rw [sg_lk (by omega), elk]; rfl)
      have n43 := m_tsignL q2 (ch := 43) (by omega) (by omega) (by rw [sg_lk (by omega), elk]; rfl)
      (rw [show f_X10_qGoesOn_L0 f_X10_qGoesOn_j122 (F3 + 1) s = f_X10_qGoesOn_j122 s1 by simp (disch := omega) only [f_X10_qGoesOn_L0, hbad, q1, n_i8, n_i16, n_0, n_31, n_add, n_sub, n_mul, n_neg, n_div, n_rem, n_le_t, n_le_f, n_lt_t, n_lt_f, n_eq_t, n_eq_f, n_cl, n_gd, n_gdt, n_nz, Int.reduceToNat, Int.reduceAdd, Int.reduceSub, Int.reduceMul, Int.reduceNeg, Int.reduceLT, Int.reduceLE, Int.reduceEq, Int.reduceDiv, Int.reduceMod, Nat.reduceAdd, Nat.reduceMul, ↓reduceIte, u_eq, u_no, u_nk, u_ek, u_2, u_3, j_1, j_3, j_eq, j_no, j_nk, ltd, bnd]]; simp (disch := omega) only [f_X10_qGoesOn_j122, p1, n42, n47, n43, n_i8, n_i16, n_0, n_31, n_add, n_sub, n_mul, n_neg, n_div, n_rem, n_le_t, n_le_f, n_lt_t, n_lt_f, n_eq_t, n_eq_f, n_cl, n_gd, n_gdt, n_nz, Int.reduceToNat, Int.reduceAdd, Int.reduceSub, Int.reduceMul, Int.reduceNeg, Int.reduceLT, Int.reduceLE, Int.reduceEq, Int.reduceDiv, Int.reduceMod, Nat.reduceAdd, Nat.reduceMul, ↓reduceIte, u_eq, u_no, u_nk, u_ek, u_2, u_3, j_1, j_3, j_eq, j_no, j_nk, ltd, bnd])
  unfold GM
  rw [eL, bnd]
  exact rst_1 t2.1.b.1
/-- a bracket closes -/
theorem G_close {b : Int} {c : Cur} {cs W r : List Int} {o br : Int} {s : ST} {F3 F2 : Nat} (h : MZ T n m b c cs ((W ++ [br]) ++ r.reverse) o s) (hr : ∀ v ∈ r, 1 ≤ v ∧ v ≤ 4) (hb : b ≤ (W.length : Int)) (hbr : br = 20 ∨ br = 23 ∨ br = 24) (ho : 1 ≤ o) (hs : isSg T n c 41 = true) : ∃ s', GM K x1 (F3 + 1) F2 s = (f_X10_qEndsPart s').bind (fun q => GM K x1 F3 F2 q) ∧ MZ T n m b (nxS T n c) (cs ++ r ++ (if br = 20 then [] else if br = 23 then [5] else [6])) W (o - 1) s' ∧ RQf s s' := by
  have hn := h.nb
  have hTs := T_sg hs
  have hsb := sg_b hs hn.1 hn.2.1
  have hlen : ((W ++ [br]) ++ r.reverse).length = W.length + 1 + r.length := by rw [List.length_append, List.length_reverse, ln1]
  have hsz := h.2.2.2.2
  have hX : CX b (W ++ [br]) := Or.inr ⟨by rw [ln1]; omega, by rw [tp_c]; omega, by rw [tp_c]; omega⟩
  have ebr : brk b (W ++ [br]) = br := by unfold brk; rw [if_neg (by rw [ln1]; omega), tp_c]
  obtain ⟨s1, q1, q2, q3, q4⟩ := m_lookQ h
  have elk : lkV T n (frm T n c) = 41 := of_decide_eq_true (by rw [← sg_lk (by omega)]; exact hs)
  rw [elk] at q1
  have hbad := h.1.b.1
  have hqb := m_qbr q3.2.2.1 q3.2.2.2.1.2.1 q3.2.2.2.1.2.2.1 (by omega) hX hr
  rw [ebr] at hqb
  -- the sign is passed
  obtain ⟨s2, p1, p2, p3, p4⟩ := m_pass q3 (ch := 41) (by omega) (by omega) hs
  have h2 := q2.b.2.1
  have es2 : s2 = uI s1 65 2 (Int32.ofInt (frm T n c + 1)) := by
    have hl := m_lookL q2
    rw [elk] at hl
    have hb1 := q2.b.1
    have : f_X10_takesSign (Int32.ofInt 41) s1 = some (Int32.ofInt 1, uI s1 65 2 (Int32.ofInt (frm T n c + 1))) := by
      simp (disch := omega) only [f_X10_takesSign, hb1, hl, h2, n_i8, n_i16, n_0, n_31, n_add, n_sub, n_mul, n_neg, n_div, n_rem, n_le_t, n_le_f, n_lt_t, n_lt_f, n_eq_t, n_eq_f, n_cl, n_gd, n_gdt, n_nz, Int.reduceToNat, Int.reduceAdd, Int.reduceSub, Int.reduceMul, Int.reduceNeg, Int.reduceLT, Int.reduceLE, Int.reduceEq, Int.reduceDiv, Int.reduceMod, Nat.reduceAdd, Nat.reduceMul, ↓reduceIte, u_eq, u_no, u_nk, u_ek, u_2, u_3, j_1, j_3, j_eq, j_no, j_nk, ltd, bnd]
    rw [this] at p1
    exact (congrArg Prod.snd (Option.some.inj p1)).symm
  obtain ⟨s3, r1, r2, r3⟩ := m_dtb_L p2.2.2.2.1.2.2.1 hX r fuel cs o s2 p2.2.2.1 p2.2.2.2.1.2.1 (by omega) hr (by unfold fuel; omega)
  have hM3 : MZ T n m b (nxS T n c) (cs ++ r) (W ++ [br]) o s3 := p2.w r3 r2 (by rw [ln1]; omega) (by rw [List.length_append, ln1]; omega)
  have htop := r2.top
  obtain ⟨a1, a2⟩ := r2.pop
  obtain ⟨b1, b2⟩ := a1.opn (o' := o - 1) (by omega) (by have := r2.2.2.1.2; omega)
  have hM4 := hM3.w (a2.tr b2) b1 hb (by rw [List.length_append]; omega)
  have h113 := r2.2.1.1
  have h114 := r2.2.2.1.1
  rw [ln1] at h113
  rw [show ((W.length + 1 : Nat) : Int) = (W.length : Int) + 1 by omega] at h113
  have ecl : (Int32.ofInt (W.length : Int)).toNatClampNeg = W.length := by rw [n_cl (by omega) (by omega)]; omega
  have egd : ∀ {α : Type} {y : Option α}, gd (ib (Int32.ofInt (W.length : Int)) 1700) y = y := by intro α y; exact n_gd (by omega) (by omega) (by omega)
  have e3 : Int32.ofInt ((W.length : Int) + 1) - Int32.ofInt 1 = Int32.ofInt (W.length : Int) := by rw [n_sub, show (W.length : Int) + 1 - 1 = (W.length : Int) by omega]
  have et := htop.1
  have rdt : f_X10_qDropsToBracket (uI s1 65 2 (Int32.ofInt (frm T n c + 1))) = some s3 := by rw [← es2]; exact r1
  have ej : f_X10_qGoesOn_L0 f_X10_qGoesOn_j122 (F3 + 1) s = f_X10_qGoesOn_j43 (f_X10_qGoesOn_L0 f_X10_qGoesOn_j122 F3) s1 := by
    rw [f_X10_qGoesOn_L0]
    rcases hbr with rfl | rfl | rfl
    · simp (disch := omega) only [hbad, q1, hqb, n_i8, n_i16, n_0, n_31, n_add, n_sub, n_mul, n_neg, n_div, n_rem, n_le_t, n_le_f, n_lt_t, n_lt_f, n_eq_t, n_eq_f, n_cl, n_gd, n_gdt, n_nz, Int.reduceToNat, Int.reduceAdd, Int.reduceSub, Int.reduceMul, Int.reduceNeg, Int.reduceLT, Int.reduceLE, Int.reduceEq, Int.reduceDiv, Int.reduceMod, Nat.reduceAdd, Nat.reduceMul, ↓reduceIte, u_eq, u_no, u_nk, u_ek, u_2, u_3, j_1, j_3, j_eq, j_no, j_nk, ltd, bnd]
    · simp (disch := omega) only [hbad, q1, hqb, n_i8, n_i16, n_0, n_31, n_add, n_sub, n_mul, n_neg, n_div, n_rem, n_le_t, n_le_f, n_lt_t, n_lt_f, n_eq_t, n_eq_f, n_cl, n_gd, n_gdt, n_nz, Int.reduceToNat, Int.reduceAdd, Int.reduceSub, Int.reduceMul, Int.reduceNeg, Int.reduceLT, Int.reduceLE, Int.reduceEq, Int.reduceDiv, Int.reduceMod, Nat.reduceAdd, Nat.reduceMul, ↓reduceIte, u_eq, u_no, u_nk, u_ek, u_2, u_3, j_1, j_3, j_eq, j_no, j_nk, ltd, bnd]
    · simp (disch := omega) only [hbad, q1, hqb, n_i8, n_i16, n_0, n_31, n_add, n_sub, n_mul, n_neg, n_div, n_rem, n_le_t, n_le_f, n_lt_t, n_lt_f, n_eq_t, n_eq_f, n_cl, n_gd, n_gdt, n_nz, Int.reduceToNat, Int.reduceAdd, Int.reduceSub, Int.reduceMul, Int.reduceNeg, Int.reduceLT, Int.reduceLE, Int.reduceEq, Int.reduceDiv, Int.reduceMod, Nat.reduceAdd, Nat.reduceMul, ↓reduceIte, u_eq, u_no, u_nk, u_ek, u_2, u_3, j_1, j_3, j_eq, j_no, j_nk, ltd, bnd]
  have F1 : RQf s (uI (uI s3 65 113 (Int32.ofInt (W.length : Int))) 65 114 (Int32.ofInt (o - 1))) := ((q4.tr p4).tr r3.q).tr (a2.tr b2).q
  unfold GM
  rw [ej]
  by_cases e20 : br = 20
  · subst e20
    rw [if_pos rfl, List.append_nil]
    refine ⟨_, ?_, hM4, F1⟩
    rw [show (fun q => (f_X10_qGoesOn_L0 f_X10_qGoesOn_j122 F3 q).bind (rst K x1 F2)) = (fun q => (f_X10_qGoesOn_L0 f_X10_qGoesOn_j122 F3 q).bind (rst K x1 F2)) from rfl, ← Option.bind_assoc]
    simp (disch := omega) only [f_X10_qGoesOn_j43, f_X10_qGoesOn_j115, h2, rdt, h113, h114, e3, ecl, egd, et, n_i8, n_i16, n_0, n_31, n_add, n_sub, n_mul, n_neg, n_div, n_rem, n_le_t, n_le_f, n_lt_t, n_lt_f, n_eq_t, n_eq_f, n_cl, n_gd, n_gdt, n_nz, Int.reduceToNat, Int.reduceAdd, Int.reduceSub, Int.reduceMul, Int.reduceNeg, Int.reduceLT, Int.reduceLE, Int.reduceEq, Int.reduceDiv, Int.reduceMod, Nat.reduceAdd, Nat.reduceMul, ↓reduceIte, u_eq, u_no, u_nk, u_ek, u_2, u_3, j_1, j_3, j_eq, j_no, j_nk, ltd, bnd]
  · rw [if_neg e20]
    have hz : ∃ z : Int, (if br = 23 then [(5 : Int)] else [6]) = [z] ∧ f_X10_qGoesOn_j43 (f_X10_qGoesOn_L0 f_X10_qGoesOn_j122 F3) s1 = f_X10_qGoesOn_j112 (f_X10_qGoesOn_L0 f_X10_qGoesOn_j122 F3) (Int32.ofInt z) (uI (uI s3 65 113 (Int32.ofInt (W.length : Int))) 65 114 (Int32.ofInt (o - 1))) := by
      by_cases e23 : br = 23
      · subst e23
        refine ⟨5, if_pos rfl, ?_⟩
        simp (disch := omega) only [f_X10_qGoesOn_j43, h2, rdt, h113, h114, e3, ecl, egd, et, n_i8, n_i16, n_0, n_31, n_add, n_sub, n_mul, n_neg, n_div, n_rem, n_le_t, n_le_f, n_lt_t, n_lt_f, n_eq_t, n_eq_f, n_cl, n_gd, n_gdt, n_nz, Int.reduceToNat, Int.reduceAdd, Int.reduceSub, Int.reduceMul, Int.reduceNeg, Int.reduceLT, Int.reduceLE, Int.reduceEq, Int.reduceDiv, Int.reduceMod, Nat.reduceAdd, Nat.reduceMul, ↓reduceIte, u_eq, u_no, u_nk, u_ek, u_2, u_3, j_1, j_3, j_eq, j_no, j_nk, ltd, bnd]
      · have e24 : br = 24 := by omega
        subst e24
        refine ⟨6, if_neg (by omega), ?_⟩
        simp (disch := omega) only [f_X10_qGoesOn_j43, h2, rdt, h113, h114, e3, ecl, egd, et, n_i8, n_i16, n_0, n_31, n_add, n_sub, n_mul, n_neg, n_div, n_rem, n_le_t, n_le_f, n_lt_t, n_lt_f, n_eq_t, n_eq_f, n_cl, n_gd, n_gdt, n_nz, Int.reduceToNat, Int.reduceAdd, Int.reduceSub, Int.reduceMul, Int.reduceNeg, Int.reduceLT, Int.reduceLE, Int.reduceEq, Int.reduceDiv, Int.reduceMod, Nat.reduceAdd, Nat.reduceMul, ↓reduceIte, u_eq, u_no, u_nk, u_ek, u_2, u_3, j_1, j_3, j_eq, j_no, j_nk, ltd, bnd]
    obtain ⟨z, hz1, hz2⟩ := hz
    rw [hz1, hz2]
    obtain ⟨s5, v1, v2, v3⟩ := m_qcode b1 (by rw [List.length_append]; omega) z
    refine ⟨s5, ?_, hM4.w v3 v2 hb (by rw [ln1, List.length_append]; omega), F1.tr v3.q⟩
    unfold f_X10_qGoesOn_j112 f_X10_qGoesOn_j115
    rw [v1, bnd, Option.bind_assoc]
/-- a comma -/
theorem G_comma {b : Int} {c : Cur} {cs W r : List Int} {o br : Int} {s : ST} {F3 F2 : Nat} (h : MZ T n m b c cs ((W ++ [br]) ++ r.reverse) o s) (hr : ∀ v ∈ r, 1 ≤ v ∧ v ≤ 4) (hb : b ≤ (W.length : Int)) (hbr : br = 21 ∨ br = 22) (hs : isSg T n c 44 = true) : ∃ s', GM K x1 (F3 + 1) (F2 + 1) s = PM K x1 fuel F2 s' ∧ MZ T n m b (nxS T n c) (cs ++ r) (W ++ [br + 2]) o s' ∧ RQf s s' := by
  have hn := h.nb
  have hsb := sg_b hs hn.1 hn.2.1
  have hlen : ((W ++ [br]) ++ r.reverse).length = W.length + 1 + r.length := by rw [List.length_append, List.length_reverse, ln1]
  have hsz := h.2.2.2.2
  have hX : CX b (W ++ [br]) := Or.inr ⟨by rw [ln1]; omega, by rw [tp_c]; omega, by rw [tp_c]; omega⟩
  have ebr : brk b (W ++ [br]) = br := by unfold brk; rw [if_neg (by rw [ln1]; omega), tp_c]
  obtain ⟨s1, q1, q2, q3, q4⟩ := m_lookQ h
  have elk : lkV T n (frm T n c) = 44 := of_decide_eq_true (by rw [← sg_lk (by omega)]; exact hs)
  rw [elk] at q1
  have hbad := h.1.b.1
  have hqb := m_qbr q3.2.2.1 q3.2.2.2.1.2.1 q3.2.2.2.1.2.2.1 (by omega) hX hr
  rw [ebr] at hqb
  have n42 := m_tsignL q2 (ch := 42) (by omega) (by omega) (by rw [sg_lk (by omega), elk]; rfl)
  have n47 := m_tsignL q2 (ch := 47) (by omega) (by omega) (by rw [sg_lk (by omega), elk]; rfl)
  have n43 := m_tsignL q2 (ch := 43) (by omega) (by omega) (by rw [sg_lk (by omega), elk]; rfl)
  have n45 := m_tsignL q2 (ch := 45) (by omega) (by omega) (by rw [sg_lk (by omega), elk]; rfl)
  obtain ⟨s2, p1, p2, -, p4⟩ := m_asign q3.1 (ch := 44) (by omega) (by omega)
  have hM2 : MZ T n m b (nxS T n c) cs ((W ++ [br]) ++ r.reverse) o s2 := q3.p p4 (p2 hs) (by omega)
  have hb2 := hM2.1.b.1
  obtain ⟨s3, r1, r2, r3⟩ := m_dtb_L hM2.2.2.2.1.2.2.1 hX r fuel cs o s2 hM2.2.2.1 hM2.2.2.2.1.2.1 (by omega) hr (by unfold fuel; omega)
  have r1 : f_X10_qDropsToBracket s2 = some s3 := r1
  have hM3 : MZ T n m b (nxS T n c) (cs ++ r) (W ++ [br]) o s3 := hM2.w r3 r2 (by rw [ln1]; omega) (by rw [List.length_append, ln1]; omega)
  have htop := r2.top
  have h113 := r2.2.1.1
  rw [ln1] at h113
  rw [show ((W.length + 1 : Nat) : Int) = (W.length : Int) + 1 by omega] at h113
  have hf4 : QWf s3 (uI s3 147 W.length (Int32.ofInt (br + 2))) := ⟨fun a k x y z => by (simp only [ua, ja, u_2, u_3, j_1, j_3]; (repeat' split) <;> first | rfl | (exfalso; omega)), rfl⟩
  have hQ4 : QS (cs ++ r) (W ++ [br + 2]) o (uI s3 147 W.length (Int32.ofInt (br + 2))) := by
    obtain ⟨⟨g1, g2⟩, ⟨g3, g4⟩, ⟨g5, g5b⟩, g6⟩ := r2
    refine ⟨⟨by rw [u_no (by omega)]; exact g1, fun i hi => by rw [u_no (by omega)]; exact g2 i hi⟩, ⟨?_, fun i hi => ?_⟩, ⟨by rw [u_no (by omega)]; exact g5, g5b⟩, fun u hu => ?_⟩
    · rw [u_no (by omega), ln1]
      rw [ln1] at g3
      exact g3
    · rw [ln1] at hi g4
      by_cases e : i = W.length
      · subst e; rw [u_eq, gD_last]
      · rw [u_nk e, g4 i hi, gD_app (by omega), gD_app (by omega)]
    · rcases List.mem_append.mp hu with hu | hu
      · exact g6 u (List.mem_append_left _ hu)
      · rw [List.mem_singleton.mp hu]; omega
  have hM4 := hM3.w hf4 hQ4 (by rw [ln1]; omega) (by rw [ln1, List.length_append]; omega)
  refine ⟨_, ?_, hM4, ((q4.tr p4.q).tr r3.q).tr hf4.q⟩
  have ecl : (Int32.ofInt (W.length : Int)).toNatClampNeg = W.length := by rw [n_cl (by omega) (by omega)]; omega
  have egd : ∀ {α : Type} {y : Option α}, gd (ib (Int32.ofInt (W.length : Int)) 1700) y = y := by intro α y; exact n_gd (by omega) (by omega) (by omega)
  have e3 : Int32.ofInt ((W.length : Int) + 1) - Int32.ofInt 1 = Int32.ofInt (W.length : Int) := by rw [n_sub, show (W.length : Int) + 1 - 1 = (W.length : Int) by omega]
  have et := htop.1
  have ej : f_X10_qGoesOn_j326 s1 = some (Int32.ofInt 1, uI s3 147 W.length (Int32.ofInt (br + 2))) := by
    simp (disch := omega) only [f_X10_qGoesOn_j326, p1, hb2, r1, h113, e3, ecl, egd, et, n_i8, n_i16, n_0, n_31, n_add, n_sub, n_mul, n_neg, n_div, n_rem, n_le_t, n_le_f, n_lt_t, n_lt_f, n_eq_t, n_eq_f, n_cl, n_gd, n_gdt, n_nz, Int.reduceToNat, Int.reduceAdd, Int.reduceSub, Int.reduceMul, Int.reduceNeg, Int.reduceLT, Int.reduceLE, Int.reduceEq, Int.reduceDiv, Int.reduceMod, Nat.reduceAdd, Nat.reduceMul, ↓reduceIte, u_eq, u_no, u_nk, u_ek, u_2, u_3, j_1, j_3, j_eq, j_no, j_nk, ltd, bnd]
  have eL : f_X10_qGoesOn_L0 f_X10_qGoesOn_j122 (F3 + 1) s = some (Int32.ofInt 1, uI s3 147 W.length (Int32.ofInt (br + 2))) := by
    rw [← ej]
    rcases hbr with rfl | rfl
    · (rw [show f_X10_qGoesOn_L0 f_X10_qGoesOn_j122 (F3 + 1) s = f_X10_qGoesOn_j122 s1 by simp (disch := omega) only [f_X10_qGoesOn_L0, hbad, q1, hqb, n_i8, n_i16, n_0, n_31, n_add, n_sub, n_mul, n_neg, n_div, n_rem, n_le_t, n_le_f, n_lt_t, n_lt_f, n_eq_t, n_eq_f, n_cl, n_gd, n_gdt, n_nz, Int.reduceToNat, Int.reduceAdd, Int.reduceSub, Int.reduceMul, Int.reduceNeg, Int.reduceLT, Int.reduceLE, Int.reduceEq, Int.reduceDiv, Int.reduceMod, Nat.reduceAdd, Nat.reduceMul, ↓reduceIte, u_eq, u_no, u_nk, u_ek, u_2, u_3, j_1, j_3, j_eq, j_no, j_nk, ltd, bnd]]; simp (disch := omega) only [f_X10_qGoesOn_j122, n42, n47, n43, n45, hqb, n_i8, n_i16, n_0, n_31, n_add, n_sub, n_mul, n_neg, n_div, n_rem, n_le_t, n_le_f, n_lt_t, n_lt_f, n_eq_t, n_eq_f, n_cl, n_gd, n_gdt, n_nz, Int.reduceToNat, Int.reduceAdd, Int.reduceSub, Int.reduceMul, Int.reduceNeg, Int.reduceLT, Int.reduceLE, Int.reduceEq, Int.reduceDiv, Int.reduceMod, Nat.reduceAdd, Nat.reduceMul, ↓reduceIte, u_eq, u_no, u_nk, u_ek, u_2, u_3, j_1, j_3, j_eq, j_no, j_nk, ltd, bnd])
    · (rw [show f_X10_qGoesOn_L0 f_X10_qGoesOn_j122 (F3 + 1) s = f_X10_qGoesOn_j122 s1 by simp (disch := omega) only [f_X10_qGoesOn_L0, hbad, q1, hqb, n_i8, n_i16, n_0, n_31, n_add, n_sub, n_mul, n_neg, n_div, n_rem, n_le_t, n_le_f, n_lt_t, n_lt_f, n_eq_t, n_eq_f, n_cl, n_gd, n_gdt, n_nz, Int.reduceToNat, Int.reduceAdd, Int.reduceSub, Int.reduceMul, Int.reduceNeg, Int.reduceLT, Int.reduceLE, Int.reduceEq, Int.reduceDiv, Int.reduceMod, Nat.reduceAdd, Nat.reduceMul, ↓reduceIte, u_eq, u_no, u_nk, u_ek, u_2, u_3, j_1, j_3, j_eq, j_no, j_nk, ltd, bnd]]; simp (disch := omega) only [f_X10_qGoesOn_j122, n42, n47, n43, n45, hqb, n_i8, n_i16, n_0, n_31, n_add, n_sub, n_mul, n_neg, n_div, n_rem, n_le_t, n_le_f, n_lt_t, n_lt_f, n_eq_t, n_eq_f, n_cl, n_gd, n_gdt, n_nz, Int.reduceToNat, Int.reduceAdd, Int.reduceSub, Int.reduceMul, Int.reduceNeg, Int.reduceLT, Int.reduceLE, Int.reduceEq, Int.reduceDiv, Int.reduceMod, Nat.reduceAdd, Nat.reduceMul, ↓reduceIte, u_eq, u_no, u_nk, u_ek, u_2, u_3, j_1, j_3, j_eq, j_no, j_nk, ltd, bnd])
  unfold GM
  rw [eL, bnd]
  exact rst_1 hM4.1.b.1
/-- no operator stands here -/
def nop (T : Int → Int) (n : Int) (c : Cur) : Prop := isSg T n c 42 = false ∧ isSg T n c 47 = false ∧ isSg T n c 43 = false ∧ isSg T n c 45 = false
theorem G_bad {b : Int} {c : Cur} {cs W r : List Int} {o br : Int} {s : ST} {F3 F2 : Nat} (h : MZ T n m b c cs ((W ++ [br]) ++ r.reverse) o s) (hr : ∀ v ∈ r, 1 ≤ v ∧ v ≤ 4) (hb : b ≤ (W.length : Int)) (hno : nop T n c) (hbr : ((br = 20 ∨ br = 23 ∨ br = 24) ∧ isSg T n c 41 = false) ∨ ((br = 21 ∨ br = 22) ∧ isSg T n c 44 = false)) : ∃ s', GM K x1 (F3 + 1) (F2 + 1) s = K x1 s' ∧ RB 1 (frm T n c) s' ∧ QN s' ∧ RQf s s' := by
  have hn := h.nb
  have hlen : ((W ++ [br]) ++ r.reverse).length = W.length + 1 + r.length := by rw [List.length_append, List.length_reverse, ln1]
  have hsz := h.2.2.2.2
  have hX : CX b (W ++ [br]) := Or.inr ⟨by rw [ln1]; omega, by rw [tp_c]; omega, by rw [tp_c]; omega⟩
  have ebr : brk b (W ++ [br]) = br := by unfold brk; rw [if_neg (by rw [ln1]; omega), tp_c]
  obtain ⟨s1, q1, q2, q3, q4⟩ := m_lookQ h
  have hbad := h.1.b.1
  have hbad1 := q2.b.1
  have hlb := lkV_b (f := frm T n c) q2.b.2.2.2 (by have := q2.b.2.2.1; omega)
  have hqb := m_qbr q3.2.2.1 q3.2.2.2.1.2.1 q3.2.2.2.1.2.2.1 (by omega) hX hr
  rw [ebr] at hqb
  have n42 := m_tsignL q2 (ch := 42) (by omega) (by omega) hno.1
  have n47 := m_tsignL q2 (ch := 47) (by omega) (by omega) hno.2.1
  have n43 := m_tsignL q2 (ch := 43) (by omega) (by omega) hno.2.2.1
  have n45 := m_tsignL q2 (ch := 45) (by omega) (by omega) hno.2.2.2
  have h2 := q2.b.2.1
  rcases hbr with ⟨hbr, h41⟩ | ⟨hbr, h44⟩
  · have e41 : ¬ lkV T n (frm T n c) = 41 := fun x => by rw [sg_lk (by omega), decide_eq_true x] at h41; cases h41
    obtain ⟨s2, p1, p2, p3⟩ := m_fail (k := 1) (p := frm T n c) hbad1 (by omega) (by omega)
    refine ⟨s2, ?_, p2, QN.mk q3 p3, q4.tr p3.q⟩
    have eL : f_X10_qGoesOn_L0 f_X10_qGoesOn_j122 (F3 + 1) s = some (Int32.ofInt 0, s2) := by
      rcases hbr with rfl | rfl | rfl
      · (rw [show f_X10_qGoesOn_L0 f_X10_qGoesOn_j122 (F3 + 1) s = f_X10_qGoesOn_j122 s1 by simp (disch := omega) only [f_X10_qGoesOn_L0, hbad, q1, hqb, n_i8, n_i16, n_0, n_31, n_add, n_sub, n_mul, n_neg, n_div, n_rem, n_le_t, n_le_f, n_lt_t, n_lt_f, n_eq_t, n_eq_f, n_cl, n_gd, n_gdt, n_nz, Int.reduceToNat, Int.reduceAdd, Int.reduceSub, Int.reduceMul, Int.reduceNeg, Int.reduceLT, Int.reduceLE, Int.reduceEq, Int.reduceDiv, Int.reduceMod, Nat.reduceAdd, Nat.reduceMul, ↓reduceIte, u_eq, u_no, u_nk, u_ek, u_2, u_3, j_1, j_3, j_eq, j_no, j_nk, ltd, bnd]]; simp (disch := omega) only [f_X10_qGoesOn_j122, hbad1, n42, n47, n43, n45, hqb, h2, p1, n_i8, n_i16, n_0, n_31, n_add, n_sub, n_mul, n_neg, n_div, n_rem, n_le_t, n_le_f, n_lt_t, n_lt_f, n_eq_t, n_eq_f, n_cl, n_gd, n_gdt, n_nz, Int.reduceToNat, Int.reduceAdd, Int.reduceSub, Int.reduceMul, Int.reduceNeg, Int.reduceLT, Int.reduceLE, Int.reduceEq, Int.reduceDiv, Int.reduceMod, Nat.reduceAdd, Nat.reduceMul, ↓reduceIte, u_eq, u_no, u_nk, u_ek, u_2, u_3, j_1, j_3, j_eq, j_no, j_nk, ltd, bnd])
      · (rw [show f_X10_qGoesOn_L0 f_X10_qGoesOn_j122 (F3 + 1) s = f_X10_qGoesOn_j122 s1 by simp (disch := omega) only [f_X10_qGoesOn_L0, hbad, q1, hqb, n_i8, n_i16, n_0, n_31, n_add, n_sub, n_mul, n_neg, n_div, n_rem, n_le_t, n_le_f, n_lt_t, n_lt_f, n_eq_t, n_eq_f, n_cl, n_gd, n_gdt, n_nz, Int.reduceToNat, Int.reduceAdd, Int.reduceSub, Int.reduceMul, Int.reduceNeg, Int.reduceLT, Int.reduceLE, Int.reduceEq, Int.reduceDiv, Int.reduceMod, Nat.reduceAdd, Nat.reduceMul, ↓reduceIte, u_eq, u_no, u_nk, u_ek, u_2, u_3, j_1, j_3, j_eq, j_no, j_nk, ltd, bnd]]; simp (disch := omega) only [f_X10_qGoesOn_j122, hbad1, n42, n47, n43, n45, hqb, h2, p1, n_i8, n_i16, n_0, n_31, n_add, n_sub, n_mul, n_neg, n_div, n_rem, n_le_t, n_le_f, n_lt_t, n_lt_f, n_eq_t, n_eq_f, n_cl, n_gd, n_gdt, n_nz, Int.reduceToNat, Int.reduceAdd, Int.reduceSub, Int.reduceMul, Int.reduceNeg, Int.reduceLT, Int.reduceLE, Int.reduceEq, Int.reduceDiv, Int.reduceMod, Nat.reduceAdd, Nat.reduceMul, ↓reduceIte, u_eq, u_no, u_nk, u_ek, u_2, u_3, j_1, j_3, j_eq, j_no, j_nk, ltd, bnd])
      · (rw [show f_X10_qGoesOn_L0 f_X10_qGoesOn_j122 (F3 + 1) s = f_X10_qGoesOn_j122 s1 by simp (disch := omega) only [f_X10_qGoesOn_L0, hbad, q1, hqb, n_i8, n_i16, n_0, n_31, n_add, n_sub, n_mul, n_neg, n_div, n_rem, n_le_t, n_le_f, n_lt_t, n_lt_f, n_eq_t, n_eq_f, n_cl, n_gd, n_gdt, n_nz, Int.reduceToNat, Int.reduceAdd, Int.reduceSub, Int.reduceMul, Int.reduceNeg, Int.reduceLT, Int.reduceLE, Int.reduceEq, Int.reduceDiv, Int.reduceMod, Nat.reduceAdd, Nat.reduceMul, ↓reduceIte, u_eq, u_no, u_nk, u_ek, u_2, u_3, j_1, j_3, j_eq, j_no, j_nk, ltd, bnd]]; simp (disch := omega) only [f_X10_qGoesOn_j122, hbad1, n42, n47, n43, n45, hqb, h2, p1, n_i8, n_i16, n_0, n_31, n_add, n_sub, n_mul, n_neg, n_div, n_rem, n_le_t, n_le_f, n_lt_t, n_lt_f, n_eq_t, n_eq_f, n_cl, n_gd, n_gdt, n_nz, Int.reduceToNat, Int.reduceAdd, Int.reduceSub, Int.reduceMul, Int.reduceNeg, Int.reduceLT, Int.reduceLE, Int.reduceEq, Int.reduceDiv, Int.reduceMod, Nat.reduceAdd, Nat.reduceMul, ↓reduceIte, u_eq, u_no, u_nk, u_ek, u_2, u_3, j_1, j_3, j_eq, j_no, j_nk, ltd, bnd])
    unfold GM
    rw [eL, bnd]
    exact rst_0 F2 s2
  · obtain ⟨s2, p1, -, p3, p4⟩ := m_asign q3.1 (ch := 44) (by omega) (by omega)
    have p3 := p3 h44
    refine ⟨s2, ?_, p3, QN.mk q3 p4, q4.tr p4.q⟩
    have e5 : (s2.1 65 5 = Int32.ofInt 0) = False := eq_false p3.ne
    have ej : f_X10_qGoesOn_j326 s1 = some (Int32.ofInt 0, s2) := by
      simp (disch := omega) only [f_X10_qGoesOn_j326, p1, e5, n_i8, n_i16, n_0, n_31, n_add, n_sub, n_mul, n_neg, n_div, n_rem, n_le_t, n_le_f, n_lt_t, n_lt_f, n_eq_t, n_eq_f, n_cl, n_gd, n_gdt, n_nz, Int.reduceToNat, Int.reduceAdd, Int.reduceSub, Int.reduceMul, Int.reduceNeg, Int.reduceLT, Int.reduceLE, Int.reduceEq, Int.reduceDiv, Int.reduceMod, Nat.reduceAdd, Nat.reduceMul, ↓reduceIte, u_eq, u_no, u_nk, u_ek, u_2, u_3, j_1, j_3, j_eq, j_no, j_nk, ltd, bnd]
    have eL : f_X10_qGoesOn_L0 f_X10_qGoesOn_j122 (F3 + 1) s = some (Int32.ofInt 0, s2) := by
      rw [← ej]
      by_cases e41 : lkV T n (frm T n c) = 41
      · rw [e41] at q1
        rcases hbr with rfl | rfl
        · (rw [show f_X10_qGoesOn_L0 f_X10_qGoesOn_j122 (F3 + 1) s = f_X10_qGoesOn_j122 s1 by simp (disch := omega) only [f_X10_qGoesOn_L0, hbad, q1, hqb, n_i8, n_i16, n_0, n_31, n_add, n_sub, n_mul, n_neg, n_div, n_rem, n_le_t, n_le_f, n_lt_t, n_lt_f, n_eq_t, n_eq_f, n_cl, n_gd, n_gdt, n_nz, Int.reduceToNat, Int.reduceAdd, Int.reduceSub, Int.reduceMul, Int.reduceNeg, Int.reduceLT, Int.reduceLE, Int.reduceEq, Int.reduceDiv, Int.reduceMod, Nat.reduceAdd, Nat.reduceMul, ↓reduceIte, u_eq, u_no, u_nk, u_ek, u_2, u_3, j_1, j_3, j_eq, j_no, j_nk, ltd, bnd]]; simp (disch := omega) only [f_X10_qGoesOn_j122, n42, n47, n43, n45, hqb, n_i8, n_i16, n_0, n_31, n_add, n_sub, n_mul, n_neg, n_div, n_rem, n_le_t, n_le_f, n_lt_t, n_lt_f, n_eq_t, n_eq_f, n_cl, n_gd, n_gdt, n_nz, Int.reduceToNat, Int.reduceAdd, Int.reduceSub, Int.reduceMul, Int.reduceNeg, Int.reduceLT, Int.reduceLE, Int.reduceEq, Int.reduceDiv, Int.reduceMod, Nat.reduceAdd, Nat.reduceMul, ↓reduceIte, u_eq, u_no, u_nk, u_ek, u_2, u_3, j_1, j_3, j_eq, j_no, j_nk, ltd, bnd])
        · (rw [show f_X10_qGoesOn_L0 f_X10_qGoesOn_j122 (F3 + 1) s = f_X10_qGoesOn_j122 s1 by simp (disch := omega) only [f_X10_qGoesOn_L0, hbad, q1, hqb, n_i8, n_i16, n_0, n_31, n_add, n_sub, n_mul, n_neg, n_div, n_rem, n_le_t, n_le_f, n_lt_t, n_lt_f, n_eq_t, n_eq_f, n_cl, n_gd, n_gdt, n_nz, Int.reduceToNat, Int.reduceAdd, Int.reduceSub, Int.reduceMul, Int.reduceNeg, Int.reduceLT, Int.reduceLE, Int.reduceEq, Int.reduceDiv, Int.reduceMod, Nat.reduceAdd, Nat.reduceMul, ↓reduceIte, u_eq, u_no, u_nk, u_ek, u_2, u_3, j_1, j_3, j_eq, j_no, j_nk, ltd, bnd]]; simp (disch := omega) only [f_X10_qGoesOn_j122, n42, n47, n43, n45, hqb, n_i8, n_i16, n_0, n_31, n_add, n_sub, n_mul, n_neg, n_div, n_rem, n_le_t, n_le_f, n_lt_t, n_lt_f, n_eq_t, n_eq_f, n_cl, n_gd, n_gdt, n_nz, Int.reduceToNat, Int.reduceAdd, Int.reduceSub, Int.reduceMul, Int.reduceNeg, Int.reduceLT, Int.reduceLE, Int.reduceEq, Int.reduceDiv, Int.reduceMod, Nat.reduceAdd, Nat.reduceMul, ↓reduceIte, u_eq, u_no, u_nk, u_ek, u_2, u_3, j_1, j_3, j_eq, j_no, j_nk, ltd, bnd])
      · rcases hbr with rfl | rfl
        · (rw [show f_X10_qGoesOn_L0 f_X10_qGoesOn_j122 (F3 + 1) s = f_X10_qGoesOn_j122 s1 by simp (disch := omega) only [f_X10_qGoesOn_L0, hbad, q1, hqb, n_i8, n_i16, n_0, n_31, n_add, n_sub, n_mul, n_neg, n_div, n_rem, n_le_t, n_le_f, n_lt_t, n_lt_f, n_eq_t, n_eq_f, n_cl, n_gd, n_gdt, n_nz, Int.reduceToNat, Int.reduceAdd, Int.reduceSub, Int.reduceMul, Int.reduceNeg, Int.reduceLT, Int.reduceLE, Int.reduceEq, Int.reduceDiv, Int.reduceMod, Nat.reduceAdd, Nat.reduceMul, ↓reduceIte, u_eq, u_no, u_nk, u_ek, u_2, u_3, j_1, j_3, j_eq, j_no, j_nk, ltd, bnd]]; simp (disch := omega) only [f_X10_qGoesOn_j122, n42, n47, n43, n45, hqb, n_i8, n_i16, n_0, n_31, n_add, n_sub, n_mul, n_neg, n_div, n_rem, n_le_t, n_le_f, n_lt_t, n_lt_f, n_eq_t, n_eq_f, n_cl, n_gd, n_gdt, n_nz, Int.reduceToNat, Int.reduceAdd, Int.reduceSub, Int.reduceMul, Int.reduceNeg, Int.reduceLT, Int.reduceLE, Int.reduceEq, Int.reduceDiv, Int.reduceMod, Nat.reduceAdd, Nat.reduceMul, ↓reduceIte, u_eq, u_no, u_nk, u_ek, u_2, u_3, j_1, j_3, j_eq, j_no, j_nk, ltd, bnd])
        · (rw [show f_X10_qGoesOn_L0 f_X10_qGoesOn_j122 (F3 + 1) s = f_X10_qGoesOn_j122 s1 by simp (disch := omega) only [f_X10_qGoesOn_L0, hbad, q1, hqb, n_i8, n_i16, n_0, n_31, n_add, n_sub, n_mul, n_neg, n_div, n_rem, n_le_t, n_le_f, n_lt_t, n_lt_f, n_eq_t, n_eq_f, n_cl, n_gd, n_gdt, n_nz, Int.reduceToNat, Int.reduceAdd, Int.reduceSub, Int.reduceMul, Int.reduceNeg, Int.reduceLT, Int.reduceLE, Int.reduceEq, Int.reduceDiv, Int.reduceMod, Nat.reduceAdd, Nat.reduceMul, ↓reduceIte, u_eq, u_no, u_nk, u_ek, u_2, u_3, j_1, j_3, j_eq, j_no, j_nk, ltd, bnd]]; simp (disch := omega) only [f_X10_qGoesOn_j122, n42, n47, n43, n45, hqb, n_i8, n_i16, n_0, n_31, n_add, n_sub, n_mul, n_neg, n_div, n_rem, n_le_t, n_le_f, n_lt_t, n_lt_f, n_eq_t, n_eq_f, n_cl, n_gd, n_gdt, n_nz, Int.reduceToNat, Int.reduceAdd, Int.reduceSub, Int.reduceMul, Int.reduceNeg, Int.reduceLT, Int.reduceLE, Int.reduceEq, Int.reduceDiv, Int.reduceMod, Nat.reduceAdd, Nat.reduceMul, ↓reduceIte, u_eq, u_no, u_nk, u_ek, u_2, u_3, j_1, j_3, j_eq, j_no, j_nk, ltd, bnd])
    unfold GM
    rw [eL, bnd]
    exact rst_0 F2 s2
theorem G_end {b : Int} {c : Cur} {cs W r : List Int} {o : Int} {s : ST} {F3 F2 : Nat} (h : MZ T n m b c cs (W ++ r.reverse) o s) (hr : ∀ v ∈ r, 1 ≤ v ∧ v ≤ 4) (hb : (W.length : Int) = b) (hX : CX b W) (hno : nop T n c) : ∃ s', GM K x1 (F3 + 1) (F2 + 1) s = K x1 s' ∧ MZ T n m b c cs (W ++ r.reverse) o s' ∧ RQf s s' := by
  have hn := h.nb
  have hsz := h.2.2.2.2
  have ebr : brk b W = -1 := by unfold brk; rw [if_pos hb]
  obtain ⟨s1, q1, q2, q3, q4⟩ := m_lookQ h
  have hbad := h.1.b.1
  have hbad1 := q2.b.1
  have hlb := lkV_b (f := frm T n c) q2.b.2.2.2 (by have := q2.b.2.2.1; omega)
  have hqb := m_qbr q3.2.2.1 q3.2.2.2.1.2.1 q3.2.2.2.1.2.2.1 (by omega) hX hr
  rw [ebr] at hqb
  have n42 := m_tsignL q2 (ch := 42) (by omega) (by omega) hno.1
  have n47 := m_tsignL q2 (ch := 47) (by omega) (by omega) hno.2.1
  have n43 := m_tsignL q2 (ch := 43) (by omega) (by omega) hno.2.2.1
  have n45 := m_tsignL q2 (ch := 45) (by omega) (by omega) hno.2.2.2
  refine ⟨s1, ?_, q3, q4⟩
  have eL : f_X10_qGoesOn_L0 f_X10_qGoesOn_j122 (F3 + 1) s = some (Int32.ofInt 0, s1) := by
    by_cases e41 : lkV T n (frm T n c) = 41
    · rw [e41] at q1
      (rw [show f_X10_qGoesOn_L0 f_X10_qGoesOn_j122 (F3 + 1) s = f_X10_qGoesOn_j122 s1 by simp (disch := omega) only [f_X10_qGoesOn_L0, hbad, q1, hqb, n_i8, n_i16, n_0, n_31, n_add, n_sub, n_mul, n_neg, n_div, n_rem, n_le_t, n_le_f, n_lt_t, n_lt_f, n_eq_t, n_eq_f, n_cl, n_gd, n_gdt, n_nz, Int.reduceToNat, Int.reduceAdd, Int.reduceSub, Int.reduceMul, Int.reduceNeg, Int.reduceLT, Int.reduceLE, Int.reduceEq, Int.reduceDiv, Int.reduceMod, Nat.reduceAdd, Nat.reduceMul, ↓reduceIte, u_eq, u_no, u_nk, u_ek, u_2, u_3, j_1, j_3, j_eq, j_no, j_nk, ltd, bnd]]; simp (disch := omega) only [f_X10_qGoesOn_j122, n42, n47, n43, n45, hqb, n_i8, n_i16, n_0, n_31, n_add, n_sub, n_mul, n_neg, n_div, n_rem, n_le_t, n_le_f, n_lt_t, n_lt_f, n_eq_t, n_eq_f, n_cl, n_gd, n_gdt, n_nz, Int.reduceToNat, Int.reduceAdd, Int.reduceSub, Int.reduceMul, Int.reduceNeg, Int.reduceLT, Int.reduceLE, Int.reduceEq, Int.reduceDiv, Int.reduceMod, Nat.reduceAdd, Nat.reduceMul, ↓reduceIte, u_eq, u_no, u_nk, u_ek, u_2, u_3, j_1, j_3, j_eq, j_no, j_nk, ltd, bnd])
    · (rw [show f_X10_qGoesOn_L0 f_X10_qGoesOn_j122 (F3 + 1) s = f_X10_qGoesOn_j122 s1 by simp (disch := omega) only [f_X10_qGoesOn_L0, hbad, q1, hqb, n_i8, n_i16, n_0, n_31, n_add, n_sub, n_mul, n_neg, n_div, n_rem, n_le_t, n_le_f, n_lt_t, n_lt_f, n_eq_t, n_eq_f, n_cl, n_gd, n_gdt, n_nz, Int.reduceToNat, Int.reduceAdd, Int.reduceSub, Int.reduceMul, Int.reduceNeg, Int.reduceLT, Int.reduceLE, Int.reduceEq, Int.reduceDiv, Int.reduceMod, Nat.reduceAdd, Nat.reduceMul, ↓reduceIte, u_eq, u_no, u_nk, u_ek, u_2, u_3, j_1, j_3, j_eq, j_no, j_nk, ltd, bnd]]; simp (disch := omega) only [f_X10_qGoesOn_j122, n42, n47, n43, n45, hqb, n_i8, n_i16, n_0, n_31, n_add, n_sub, n_mul, n_neg, n_div, n_rem, n_le_t, n_le_f, n_lt_t, n_lt_f, n_eq_t, n_eq_f, n_cl, n_gd, n_gdt, n_nz, Int.reduceToNat, Int.reduceAdd, Int.reduceSub, Int.reduceMul, Int.reduceNeg, Int.reduceLT, Int.reduceLE, Int.reduceEq, Int.reduceDiv, Int.reduceMod, Nat.reduceAdd, Nat.reduceMul, ↓reduceIte, u_eq, u_no, u_nk, u_ek, u_2, u_3, j_1, j_3, j_eq, j_no, j_nk, ltd, bnd])
  unfold GM
  rw [eL, bnd]
  exact rst_0 F2 s1
