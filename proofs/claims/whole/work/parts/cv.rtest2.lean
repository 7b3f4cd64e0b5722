/-! L3: the reference reads TESTS as the grammar says -/
variable {K : ST → Option ST} {T : Int → Int} {n : Int}
theorem T_and {c : Cur} {cs W r : List Int} {o : Int} {s : ST} {F3 F2 : Nat} (h : MZ T n true 0 c cs (W ++ r.reverse) o s) (hr : ∀ v ∈ r, v = 10) (hT : ¬ tp W = 10) (hs : isWL T n c (WDl 28) = true) : ∃ s', GMt K (F3 + 1) F2 s = TM K F2 s' ∧ MZ T n true 0 (nxW T n c) (cs ++ r) (W ++ [10]) o s' ∧ RQf s s' := by
  have hn := h.nb
  have hW := isWL_W hs
  have hwb := wd_b hW hn.1 hn.2.1
  have hlw := lk_W hW
  have hsz := h.2.2.2.2
  have hlen : (W ++ r.reverse).length = W.length + r.length := by rw [List.length_append, List.length_reverse]
  obtain ⟨s1, q1, q2, q3, q4⟩ := m_lookQ h
  have hbad := h.1.b.1
  obtain ⟨s2, p1, p2, -, p4⟩ := m_takes q3.1 q3.2.1 (o := 130) (by unfold wce; omega)
  have hs' : isWL T n c (WDl (wno 130)) = true := hs
  rw [hs'] at p1
  have p1 : f_X10_takes 130 s1 = some (Int32.ofInt 1, s2) := p1
  have hM2 : MZ T n true 0 (nxW T n c) cs (W ++ r.reverse) o s2 := q3.p p4 (p2 hs') (by omega)
  obtain ⟨s3, r1, r2, r3⟩ := m_t87_L hT f_X10_qGoesOnTest_j103 r fuel cs o s2 hM2.2.2.1 (by omega) hr (by unfold fuel; omega)
  have hM3 : MZ T n true 0 (nxW T n c) (cs ++ r) W o s3 := hM2.w r3 r2 (by omega) (by rw [List.length_append]; omega)
  obtain ⟨s4, t1, t2, t3⟩ := m_push hM3 (z := 10) (by omega) (by omega) (by rw [List.length_append]; omega)
  have t1 : f_X10_qGoesOnTest_j103 s3 = some (Int32.ofInt 1, s4) := t1
  refine ⟨s4, ?_, t2, ((q4.tr p4.q).tr r3.q).tr t3.q⟩
  have eL0 : f_X10_qGoesOnTest_L0 f_X10_qGoesOnTest_j76 (F3 + 1) s = f_X10_qGoesOnTest_j76 s1 := by
    simp (disch := omega) only [f_X10_qGoesOnTest_L0, hbad, ↓bb q1, n_i8, n_i16, n_0, n_31, n_add, n_sub, n_mul, n_neg, n_div, n_rem, n_le_t, n_le_f, n_lt_t, n_lt_f, n_eq_t, n_eq_f, n_cl, n_gd, n_gdt, n_nz, Int.reduceToNat, Int.reduceAdd, Int.reduceSub, Int.reduceMul, Int.reduceNeg, Int.reduceLT, Int.reduceLE, Int.reduceEq, Int.reduceDiv, Int.reduceMod, Nat.reduceAdd, Nat.reduceMul, ↓reduceIte]
  have eL : f_X10_qGoesOnTest_L0 f_X10_qGoesOnTest_j76 (F3 + 1) s = some (Int32.ofInt 1, s4) := by
    rw [eL0, ← t1, ← r1]
    simp (disch := omega) only [f_X10_qGoesOnTest_j76, ↓bb p1, n_i8, n_i16, n_0, n_31, n_add, n_sub, n_mul, n_neg, n_div, n_rem, n_le_t, n_le_f, n_lt_t, n_lt_f, n_eq_t, n_eq_f, n_cl, n_gd, n_gdt, n_nz, Int.reduceToNat, Int.reduceAdd, Int.reduceSub, Int.reduceMul, Int.reduceNeg, Int.reduceLT, Int.reduceLE, Int.reduceEq, Int.reduceDiv, Int.reduceMod, Nat.reduceAdd, Nat.reduceMul, ↓reduceIte]
  unfold GMt
  rw [eL, bnd]
  exact rsT_1 F2 s4
theorem T_or {c : Cur} {cs W r : List Int} {o : Int} {s : ST} {F3 F2 : Nat} (h : MZ T n true 0 c cs (W ++ r.reverse) o s) (hr : ∀ v ∈ r, v = 10 ∨ v = 11) (hT : ¬ tp W = 10) (hT2 : ¬ tp W = 11) (hs : isWL T n c (WDl 27) = true) : ∃ s', GMt K (F3 + 1) F2 s = TM K F2 s' ∧ MZ T n true 0 (nxW T n c) (cs ++ r) (W ++ [11]) o s' ∧ RQf s s' := by
  have hn := h.nb
  have hW := isWL_W hs
  have hwb := wd_b hW hn.1 hn.2.1
  have hlw := lk_W hW
  have hsz := h.2.2.2.2
  have hlen : (W ++ r.reverse).length = W.length + r.length := by rw [List.length_append, List.length_reverse]
  obtain ⟨s1, q1, q2, q3, q4⟩ := m_lookQ h
  have hbad := h.1.b.1
  have h28 : isWL T n c (WDl 28) = false := by
    rw [isWL_ix (by omega), hW, Bool.true_and]
    refine decide_eq_false (fun x => ?_)
    rw [isWL_ix (by omega), Bool.and_eq_true, decide_eq_true_iff] at hs
    have := hs.2
    omega
  obtain ⟨sa, b1, -, b3, b4⟩ := m_takes q3.1 q3.2.1 (o := 130) (by unfold wce; omega)
  have h28' : isWL T n c (WDl (wno 130)) = false := h28
  rw [h28'] at b1
  have b1 : f_X10_takes 130 s1 = some (Int32.ofInt 0, sa) := b1
  have hMa : MZ T n true 0 c cs (W ++ r.reverse) o sa := q3.p b4 (b3 h28').rc (by omega)
  obtain ⟨s2, p1, p2, -, p4⟩ := m_takes hMa.1 hMa.2.1 (o := 131) (by unfold wce; omega)
  have hs' : isWL T n c (WDl (wno 131)) = true := hs
  rw [hs'] at p1
  have p1 : f_X10_takes 131 sa = some (Int32.ofInt 1, s2) := p1
  have hM2 : MZ T n true 0 (nxW T n c) cs (W ++ r.reverse) o s2 := hMa.p p4 (p2 hs') (by omega)
  obtain ⟨s3, r1, r2, r3⟩ := m_t137_L hT hT2 f_X10_qGoesOnTest_j162 r fuel cs o s2 hM2.2.2.1 (by omega) hr (by unfold fuel; omega)
  have hM3 : MZ T n true 0 (nxW T n c) (cs ++ r) W o s3 := hM2.w r3 r2 (by omega) (by rw [List.length_append]; omega)
  obtain ⟨s4, t1, t2, t3⟩ := m_push hM3 (z := 11) (by omega) (by omega) (by rw [List.length_append]; omega)
  have t1 : f_X10_qGoesOnTest_j162 s3 = some (Int32.ofInt 1, s4) := t1
  refine ⟨s4, ?_, t2, (((q4.tr b4.q).tr p4.q).tr r3.q).tr t3.q⟩
  have eL0 : f_X10_qGoesOnTest_L0 f_X10_qGoesOnTest_j76 (F3 + 1) s = f_X10_qGoesOnTest_j76 s1 := by
    simp (disch := omega) only [f_X10_qGoesOnTest_L0, hbad, ↓bb q1, n_i8, n_i16, n_0, n_31, n_add, n_sub, n_mul, n_neg, n_div, n_rem, n_le_t, n_le_f, n_lt_t, n_lt_f, n_eq_t, n_eq_f, n_cl, n_gd, n_gdt, n_nz, Int.reduceToNat, Int.reduceAdd, Int.reduceSub, Int.reduceMul, Int.reduceNeg, Int.reduceLT, Int.reduceLE, Int.reduceEq, Int.reduceDiv, Int.reduceMod, Nat.reduceAdd, Nat.reduceMul, ↓reduceIte]
  have eL : f_X10_qGoesOnTest_L0 f_X10_qGoesOnTest_j76 (F3 + 1) s = some (Int32.ofInt 1, s4) := by
    rw [eL0, ← t1, ← r1]
    simp (disch := omega) only [f_X10_qGoesOnTest_j76, ↓bb b1, ↓bb p1, n_i8, n_i16, n_0, n_31, n_add, n_sub, n_mul, n_neg, n_div, n_rem, n_le_t, n_le_f, n_lt_t, n_lt_f, n_eq_t, n_eq_f, n_cl, n_gd, n_gdt, n_nz, Int.reduceToNat, Int.reduceAdd, Int.reduceSub, Int.reduceMul, Int.reduceNeg, Int.reduceLT, Int.reduceLE, Int.reduceEq, Int.reduceDiv, Int.reduceMod, Nat.reduceAdd, Nat.reduceMul, ↓reduceIte]
  unfold GMt
  rw [eL, bnd]
  exact rsT_1 F2 s4
theorem T_close {c : Cur} {cs W r : List Int} {o : Int} {s : ST} {F3 F2 : Nat} (h : MZ T n true 0 c cs ((W ++ [25]) ++ r.reverse) o s) (hr : ∀ v ∈ r, v = 10 ∨ v = 11) (ho : 1 ≤ o) (hs : isSg T n c 93 = true) : ∃ s', GMt K (F3 + 1) F2 s = (f_X10_qDropsNots s').bind (fun q => GMt K F3 F2 q) ∧ MZ T n true 0 (nxS T n c) (cs ++ r) W (o - 1) s' ∧ RQf s s' := by
  have hn := h.nb
  have hsb := sg_b hs hn.1 hn.2.1
  have hlen : ((W ++ [25]) ++ r.reverse).length = W.length + 1 + r.length := by rw [List.length_append, List.length_reverse, ln1]
  have hsz := h.2.2.2.2
  obtain ⟨s1, q1, q2, q3, q4⟩ := m_lookQ h
  have elk : lkV T n (frm T n c) = 93 := of_decide_eq_true (by rw [← sg_lk (by omega)]; exact hs)
  rw [elk] at q1
  have hbad := h.1.b.1
  have h2 := q2.b.2.1
  have hsq := m_hasSq q3.2.2.1 (by omega)
  rw [any_r hr, any_25] at hsq
  have hsq : f_X10_qHasSquare s1 = some (Int32.ofInt 1, s1) := hsq
  obtain ⟨s2, p1, p2, p3, p4⟩ := m_pass q3 (ch := 93) (by omega) (by omega) hs
  have es2 : s2 = uI s1 65 2 (Int32.ofInt (frm T n c + 1)) := by
    have hl := m_lookL q2
    rw [elk] at hl
    have hb1 := q2.b.1
    have : f_X10_takesSign (Int32.ofInt 93) s1 = some (Int32.ofInt 1, uI s1 65 2 (Int32.ofInt (frm T n c + 1))) := by
      simp (disch := omega) only [f_X10_takesSign, hb1, hl, h2, n_i8, n_i16, n_0, n_31, n_add, n_sub, n_mul, n_neg, n_div, n_rem, n_le_t, n_le_f, n_lt_t, n_lt_f, n_eq_t, n_eq_f, n_cl, n_gd, n_gdt, n_nz, Int.reduceToNat, Int.reduceAdd, Int.reduceSub, Int.reduceMul, Int.reduceNeg, Int.reduceLT, Int.reduceLE, Int.reduceEq, Int.reduceDiv, Int.reduceMod, Nat.reduceAdd, Nat.reduceMul, ↓reduceIte, u_eq, u_no, u_nk, u_ek, u_2, u_3, j_1, j_3, j_eq, j_no, j_nk, ltd, bnd]
    rw [this] at p1
    exact (congrArg Prod.snd (Option.some.inj p1)).symm
  obtain ⟨s3, r1, r2, r3⟩ := m_t33_L W (f_X10_qGoesOnTest_j49 (f_X10_qGoesOnTest_L0 f_X10_qGoesOnTest_j76 F3)) r fuel cs o s2 p2.2.2.1 (by omega) hr (by unfold fuel; omega)
  have hM3 : MZ T n true 0 (nxS T n c) (cs ++ r) (W ++ [25]) o s3 := p2.w r3 r2 (by omega) (by rw [List.length_append, ln1]; omega)
  obtain ⟨a1, a2⟩ := r2.pop
  obtain ⟨b1, b2⟩ := a1.opn (o' := o - 1) (by omega) (by have := r2.2.2.1.2; omega)
  have hM4 := hM3.w (a2.tr b2) b1 (by omega) (by rw [List.length_append]; omega)
  have h113 := r2.2.1.1
  have h114 := r2.2.2.1.1
  rw [ln1] at h113
  rw [show ((W.length + 1 : Nat) : Int) = (W.length : Int) + 1 by omega] at h113
  have e3 : Int32.ofInt ((W.length : Int) + 1) - Int32.ofInt 1 = Int32.ofInt (W.length : Int) := by rw [n_sub, show (W.length : Int) + 1 - 1 = (W.length : Int) by omega]
  refine ⟨_, ?_, hM4, ((q4.tr p4).tr r3.q).tr (a2.tr b2).q⟩
  have ej : f_X10_qGoesOnTest_L0 f_X10_qGoesOnTest_j76 (F3 + 1) s = f_X10_qGoesOnTest_j49 (f_X10_qGoesOnTest_L0 f_X10_qGoesOnTest_j76 F3) s3 := by
    rw [← r1, es2, f_X10_qGoesOnTest_L0]
    simp (disch := omega) only [hbad, ↓bb q1, ↓bb hsq, h2, n_i8, n_i16, n_0, n_31, n_add, n_sub, n_mul, n_neg, n_div, n_rem, n_le_t, n_le_f, n_lt_t, n_lt_f, n_eq_t, n_eq_f, n_cl, n_gd, n_gdt, n_nz, Int.reduceToNat, Int.reduceAdd, Int.reduceSub, Int.reduceMul, Int.reduceNeg, Int.reduceLT, Int.reduceLE, Int.reduceEq, Int.reduceDiv, Int.reduceMod, Nat.reduceAdd, Nat.reduceMul, ↓reduceIte, ltd]
  have ek : f_X10_qGoesOnTest_j49 (f_X10_qGoesOnTest_L0 f_X10_qGoesOnTest_j76 F3) s3 = (f_X10_qDropsNots (uI (uI s3 65 113 (Int32.ofInt (W.length : Int))) 65 114 (Int32.ofInt (o - 1)))).bind (fun q => f_X10_qGoesOnTest_L0 f_X10_qGoesOnTest_j76 F3 q) := by
    simp (disch := omega) only [f_X10_qGoesOnTest_j49, h113, h114, e3, n_i8, n_i16, n_0, n_31, n_add, n_sub, n_mul, n_neg, n_div, n_rem, n_le_t, n_le_f, n_lt_t, n_lt_f, n_eq_t, n_eq_f, n_cl, n_gd, n_gdt, n_nz, Int.reduceToNat, Int.reduceAdd, Int.reduceSub, Int.reduceMul, Int.reduceNeg, Int.reduceLT, Int.reduceLE, Int.reduceEq, Int.reduceDiv, Int.reduceMod, Nat.reduceAdd, Nat.reduceMul, ↓reduceIte, u_eq, u_no, u_nk, u_ek, u_2, u_3, j_1, j_3, j_eq, j_no, j_nk, ltd, bnd]
  unfold GMt
  rw [ej, ek, Option.bind_assoc]
theorem T_no {c : Cur} {cs W : List Int} {o : Int} {s : ST} {F3 : Nat} (h : MZ T n true 0 c cs W o s) (h28 : isWL T n c (WDl 28) = false) (h27 : isWL T n c (WDl 27) = false) (h93 : isSg T n c 93 = false ∨ W.any (fun v => decide (v = 25)) = false) : ∃ s1, RLk T n c s1 ∧ MZ T n true 0 c cs W o s1 ∧ RQf s s1 ∧ (W.any (fun v => decide (v = 25)) = false → f_X10_qGoesOnTest_L0 f_X10_qGoesOnTest_j76 (F3 + 1) s = some (Int32.ofInt 0, s1)) ∧ (W.any (fun v => decide (v = 25)) = true → f_X10_qGoesOnTest_L0 f_X10_qGoesOnTest_j76 (F3 + 1) s = (f_X10_fail (Int32.ofInt 1) (Int32.ofInt (frm T n c)) s1).bind (fun q17 => some ((Int32.ofInt 0), q17))) := by
  have hn := h.nb
  have hsz := h.2.2.2.2
  obtain ⟨s1, q1, q2, q3, q4⟩ := m_lookQ h
  have hbad := h.1.b.1
  have hlb := lkV_b (f := frm T n c) q2.b.2.2.2 (by have := q2.b.2.2.1; omega)
  have hsq1 := m_hasSq q3.2.2.1 (by omega)
  have eL0 : f_X10_qGoesOnTest_L0 f_X10_qGoesOnTest_j76 (F3 + 1) s = f_X10_qGoesOnTest_j76 s1 := by
    by_cases e93 : lkV T n (frm T n c) = 93
    · have hno : W.any (fun v => decide (v = 25)) = false := by
        rcases h93 with x | x
        · rw [sg_lk (by omega), decide_eq_true e93] at x; cases x
        · exact x
      rw [hno] at hsq1
      have hsq1 : f_X10_qHasSquare s1 = some (Int32.ofInt 0, s1) := hsq1
      rw [e93] at q1
      simp (disch := omega) only [f_X10_qGoesOnTest_L0, hbad, ↓bb q1, ↓bb hsq1, n_i8, n_i16, n_0, n_31, n_add, n_sub, n_mul, n_neg, n_div, n_rem, n_le_t, n_le_f, n_lt_t, n_lt_f, n_eq_t, n_eq_f, n_cl, n_gd, n_gdt, n_nz, Int.reduceToNat, Int.reduceAdd, Int.reduceSub, Int.reduceMul, Int.reduceNeg, Int.reduceLT, Int.reduceLE, Int.reduceEq, Int.reduceDiv, Int.reduceMod, Nat.reduceAdd, Nat.reduceMul, ↓reduceIte]
    · simp (disch := omega) only [f_X10_qGoesOnTest_L0, hbad, ↓bb q1, n_i8, n_i16, n_0, n_31, n_add, n_sub, n_mul, n_neg, n_div, n_rem, n_le_t, n_le_f, n_lt_t, n_lt_f, n_eq_t, n_eq_f, n_cl, n_gd, n_gdt, n_nz, Int.reduceToNat, Int.reduceAdd, Int.reduceSub, Int.reduceMul, Int.reduceNeg, Int.reduceLT, Int.reduceLE, Int.reduceEq, Int.reduceDiv, Int.reduceMod, Nat.reduceAdd, Nat.reduceMul, ↓reduceIte]
  obtain ⟨sa, b1, -, b3, b4⟩ := m_takes q3.1 q3.2.1 (o := 130) (by unfold wce; omega)
  have h28' : isWL T n c (WDl (wno 130)) = false := h28
  rw [h28'] at b1
  have b1 : f_X10_takes 130 s1 = some (Int32.ofInt 0, sa) := b1
  have hMa : MZ T n true 0 c cs W o sa := q3.p b4 (b3 h28').rc (by omega)
  obtain ⟨s2, p1, -, p3, p4⟩ := m_takes hMa.1 hMa.2.1 (o := 131) (by unfold wce; omega)
  have h27' : isWL T n c (WDl (wno 131)) = false := h27
  rw [h27'] at p1
  have p1 : f_X10_takes 131 sa = some (Int32.ofInt 0, s2) := p1
  have hL2 := p3 h27'
  have hM2 : MZ T n true 0 c cs W o s2 := hMa.p p4 hL2.rc (by omega)
  have hsq := m_hasSq hM2.2.2.1 (by omega)
  have h5 := hL2.b.1
  have h2 := hL2.b.2.1
  refine ⟨s2, hL2, hM2, (q4.tr b4.q).tr p4.q, fun x => ?_, fun x => ?_⟩
  · rw [x] at hsq
    have hsq : f_X10_qHasSquare s2 = some (Int32.ofInt 0, s2) := hsq
    rw [eL0]
    simp (disch := omega) only [f_X10_qGoesOnTest_j76, ↓bb b1, ↓bb p1, h5, ↓bb hsq, n_i8, n_i16, n_0, n_31, n_add, n_sub, n_mul, n_neg, n_div, n_rem, n_le_t, n_le_f, n_lt_t, n_lt_f, n_eq_t, n_eq_f, n_cl, n_gd, n_gdt, n_nz, Int.reduceToNat, Int.reduceAdd, Int.reduceSub, Int.reduceMul, Int.reduceNeg, Int.reduceLT, Int.reduceLE, Int.reduceEq, Int.reduceDiv, Int.reduceMod, Nat.reduceAdd, Nat.reduceMul, ↓reduceIte]
  · rw [x] at hsq
    have hsq : f_X10_qHasSquare s2 = some (Int32.ofInt 1, s2) := hsq
    rw [eL0]
    simp (disch := omega) only [f_X10_qGoesOnTest_j76, ↓bb b1, ↓bb p1, h5, ↓bb hsq, h2, n_i8, n_i16, n_0, n_31, n_add, n_sub, n_mul, n_neg, n_div, n_rem, n_le_t, n_le_f, n_lt_t, n_lt_f, n_eq_t, n_eq_f, n_cl, n_gd, n_gdt, n_nz, Int.reduceToNat, Int.reduceAdd, Int.reduceSub, Int.reduceMul, Int.reduceNeg, Int.reduceLT, Int.reduceLE, Int.reduceEq, Int.reduceDiv, Int.reduceMod, Nat.reduceAdd, Nat.reduceMul, ↓reduceIte]
/-! what opens -/
theorem Q_open {c : Cur} {cs W : List Int} {o : Int} {s : ST} {F : Nat} (h : MZ T n true 0 c cs W o s) (hs : isSg T n c 91 = true) : (o < 6 → ∃ s', TM K (F + 1) s = TM K F s' ∧ MZ T n true 0 (nxS T n c) cs (W ++ [25]) (o + 1) s' ∧ RQf s s') ∧ (o = 6 → ∃ s', TM K (F + 1 + 1) s = K s' ∧ RB 4 (frm T n c) s' ∧ RQf s s') := by
  have hn := h.nb
  have hsb := sg_b hs hn.1 hn.2.1
  have hsz := h.2.2.2.2
  obtain ⟨s1, q1, q2, q3, q4⟩ := m_lookQ h
  have elk : lkV T n (frm T n c) = 91 := of_decide_eq_true (by rw [← sg_lk (by omega)]; exact hs)
  rw [elk] at q1
  have hbad := h.1.b.1
  have hbad1 := q2.b.1
  have h2 := q2.b.2.1
  constructor
  · intro ho
    obtain ⟨s2, r1, r2, r3⟩ := m_qopens q3.2.2.1 hbad1 ho (by omega) (v := 25) (by omega) (by omega) (Int32.ofInt (frm T n c))
    obtain ⟨s3, p1, p2, p3, p4⟩ := m_pass q3 (ch := 91) (by omega) (by omega) hs
    have h22 : s2.1 65 2 = Int32.ofInt (frm T n c) := (r3.1 65 2 (by omega) (by omega) (by omega)).trans h2
    have hf : RFa s2 (uI s2 65 2 (Int32.ofInt (frm T n c + 1))) := ⟨fun o k x => by (simp only [ua, ja, u_2, u_3, j_1, j_3]; (repeat' split) <;> first | rfl | (exfalso; omega)), rfl⟩
    have es3 : s3 = uI s1 65 2 (Int32.ofInt (frm T n c + 1)) := by
      have hl := m_lookL q2
      rw [elk] at hl
      have : f_X10_takesSign (Int32.ofInt 91) s1 = some (Int32.ofInt 1, uI s1 65 2 (Int32.ofInt (frm T n c + 1))) := by
        simp (disch := omega) only [f_X10_takesSign, hbad1, hl, h2, n_i8, n_i16, n_0, n_31, n_add, n_sub, n_mul, n_neg, n_div, n_rem, n_le_t, n_le_f, n_lt_t, n_lt_f, n_eq_t, n_eq_f, n_cl, n_gd, n_gdt, n_nz, Int.reduceToNat, Int.reduceAdd, Int.reduceSub, Int.reduceMul, Int.reduceNeg, Int.reduceLT, Int.reduceLE, Int.reduceEq, Int.reduceDiv, Int.reduceMod, Nat.reduceAdd, Nat.reduceMul, ↓reduceIte, u_eq, u_no, u_nk, u_ek, u_2, u_3, j_1, j_3, j_eq, j_no, j_nk, ltd, bnd]
      rw [this] at p1
      exact (congrArg Prod.snd (Option.some.inj p1)).symm
    have hRC : RC T n (nxS T n c) (uI s2 65 2 (Int32.ofInt (frm T n c + 1))) := by
      refine RC_fr p2.1 ?_ ?_ ?_ ?_ ?_ (fun k => ?_)
      · rw [es3, u_eq, u_eq]
      · rw [es3, u_nk (by omega), u_nk (by omega)]; exact r3.1 65 3 (by omega) (by omega) (by omega)
      · rw [es3, u_nk (by omega), u_nk (by omega)]; exact r3.1 65 4 (by omega) (by omega) (by omega)
      · rw [es3, u_nk (by omega), u_nk (by omega)]; exact r3.1 65 5 (by omega) (by omega) (by omega)
      · rw [es3, u_nk (by omega), u_nk (by omega)]; exact r3.1 65 6 (by omega) (by omega) (by omega)
      · rw [es3, u_no (by omega), u_no (by omega)]; exact r3.1 66 k (by omega) (by omega) (by omega)
    have hM : MZ T n true 0 (nxS T n c) cs (W ++ [25]) (o + 1) (uI s2 65 2 (Int32.ofInt (frm T n c + 1))) := by
      obtain ⟨g1, g2, g3, ⟨g4, g5, g6, g7⟩, g8⟩ := q3
      refine ⟨hRC, WDS_fr g2 (fun o k ho => (hf.1 o k (by omega)).trans (r3.1 o k (by omega) (by omega) (by omega))), QS_fr r2 hf.rp, ⟨(hf.1 65 59 (by omega)).trans ((r3.1 65 59 (by omega) (by omega) (by omega)).trans g4), (hf.1 65 115 (by omega)).trans ((r3.1 65 115 (by omega) (by omega) (by omega)).trans g5), g6, by rw [ln1]; omega⟩, by rw [ln1]; omega⟩
    refine ⟨_, ?_, hM, (q4.tr r3.q).tr hf.q⟩
    unfold TM
    rw [f_X10_qTest_L2]
    simp (disch := omega) only [hbad, ↓bb q1, h2, ↓bb r1, h22, n_i8, n_i16, n_0, n_31, n_add, n_sub, n_mul, n_neg, n_div, n_rem, n_le_t, n_le_f, n_lt_t, n_lt_f, n_eq_t, n_eq_f, n_cl, n_gd, n_gdt, n_nz, Int.reduceToNat, Int.reduceAdd, Int.reduceSub, Int.reduceMul, Int.reduceNeg, Int.reduceLT, Int.reduceLE, Int.reduceEq, Int.reduceDiv, Int.reduceMod, Nat.reduceAdd, Nat.reduceMul, ↓reduceIte, ltd]
  · intro ho
    subst ho
    obtain ⟨s2, r1, r2, r3⟩ := m_qopens6 q3.2.2.1 hbad1 (Int32.ofInt 25) (frm T n c)
    have hf : RFa s2 (uI s2 65 2 (s2.1 65 2 + Int32.ofInt 1)) := ⟨fun o k x => by (simp only [ua, ja, u_2, u_3, j_1, j_3]; (repeat' split) <;> first | rfl | (exfalso; omega)), rfl⟩
    have hB : RB 4 (frm T n c) (uI s2 65 2 (s2.1 65 2 + Int32.ofInt 1)) := RB_fr r2 (hf.1 65 5 (by omega)) (hf.1 65 6 (by omega))
    refine ⟨_, ?_, hB, (q4.tr r3.q).tr hf.q⟩
    rw [← TM_b (K := K) hB F]
    unfold TM
    rw [f_X10_qTest_L2]
    simp (disch := omega) only [hbad, ↓bb q1, h2, ↓bb r1, n_i8, n_i16, n_0, n_31, n_add, n_sub, n_mul, n_neg, n_div, n_rem, n_le_t, n_le_f, n_lt_t, n_lt_f, n_eq_t, n_eq_f, n_cl, n_gd, n_gdt, n_nz, Int.reduceToNat, Int.reduceAdd, Int.reduceSub, Int.reduceMul, Int.reduceNeg, Int.reduceLT, Int.reduceLE, Int.reduceEq, Int.reduceDiv, Int.reduceMod, Nat.reduceAdd, Nat.reduceMul, ↓reduceIte, ltd]
theorem Q_not {c : Cur} {cs W : List Int} {o : Int} {s : ST} {F : Nat} (h : MZ T n true 0 c cs W o s) (hs : isWL T n c (WDl 29) = true) : (o < 6 → ∃ s', TM K (F + 1) s = TM K F s' ∧ MZ T n true 0 (nxW T n c) cs (W ++ [12]) (o + 1) s' ∧ RQf s s') ∧ (o = 6 → ∃ s', TM K (F + 1 + 1) s = K s' ∧ RB 4 (frm T n c) s' ∧ RQf s s') := by
  have hn := h.nb
  have hW := isWL_W hs
  have hsb := wd_b hW hn.1 hn.2.1
  have hsz := h.2.2.2.2
  have hlw := lk_W hW
  obtain ⟨s1, q1, q2, q3, q4⟩ := m_lookQ h
  have hbad := h.1.b.1
  have hbad1 := q2.b.1
  have h2 := q2.b.2.1
  have a29 : f_X10_isHere 129 s1 = some (bI (isWL T n c (WDl 29)), s1) := m_isHereL q2 q3.2.1 (o := 129) (by unfold wce; omega)
  rw [hs] at a29
  have a29 : f_X10_isHere 129 s1 = some (Int32.ofInt 1, s1) := a29
  constructor
  · intro ho
    obtain ⟨s2, r1, r2, r3⟩ := m_qopens q3.2.2.1 hbad1 ho (by omega) (v := 12) (by omega) (by omega) (Int32.ofInt (frm T n c))
    have hR2 : RC T n c s2 := RC_fr q3.1 (r3.1 65 2 (by omega) (by omega) (by omega)) (r3.1 65 3 (by omega) (by omega) (by omega)) (r3.1 65 4 (by omega) (by omega) (by omega)) (r3.1 65 5 (by omega) (by omega) (by omega)) (r3.1 65 6 (by omega) (by omega) (by omega)) (fun k => r3.1 66 k (by omega) (by omega) (by omega))
    have hW2 : WDS s2 := WDS_fr q3.2.1 (fun o k ho => r3.1 o k (by omega) (by omega) (by omega))
    obtain ⟨s3, p1, p2, -, p4⟩ := m_asks hR2 hW2 (o := 129) (by unfold wce; omega)
    have p2 := p2 hs
    have hM : MZ T n true 0 (nxW T n c) cs (W ++ [12]) (o + 1) s3 := by
      obtain ⟨g1, g2, g3, ⟨g4, g5, g6, g7⟩, g8⟩ := q3
      exact ⟨p2, WDS_fr hW2 (fun o k ho => p4.1 o k (by omega)), QS_fr r2 p4, ⟨(p4.1 65 59 (by omega)).trans ((r3.1 65 59 (by omega) (by omega) (by omega)).trans g4), (p4.1 65 115 (by omega)).trans ((r3.1 65 115 (by omega) (by omega) (by omega)).trans g5), g6, by rw [ln1]; omega⟩, by rw [ln1]; omega⟩
    refine ⟨s3, ?_, hM, (q4.tr r3.q).tr p4.q⟩
    unfold TM
    rw [f_X10_qTest_L2]
    simp (disch := omega) only [hbad, ↓bb q1, ↓bb a29, h2, ↓bb r1, ↓bb p1, n_i8, n_i16, n_0, n_31, n_add, n_sub, n_mul, n_neg, n_div, n_rem, n_le_t, n_le_f, n_lt_t, n_lt_f, n_eq_t, n_eq_f, n_cl, n_gd, n_gdt, n_nz, Int.reduceToNat, Int.reduceAdd, Int.reduceSub, Int.reduceMul, Int.reduceNeg, Int.reduceLT, Int.reduceLE, Int.reduceEq, Int.reduceDiv, Int.reduceMod, Nat.reduceAdd, Nat.reduceMul, ↓reduceIte]
  · intro ho
    subst ho
    obtain ⟨s2, r1, r2, r3⟩ := m_qopens6 q3.2.2.1 hbad1 (Int32.ofInt 12) (frm T n c)
    refine ⟨s2, ?_, r2, q4.tr r3.q⟩
    rw [← TM_b (K := K) r2 F]
    unfold TM
    rw [f_X10_qTest_L2]
    have hA := m_asksB r2 129
    simp (disch := omega) only [hbad, ↓bb q1, ↓bb a29, h2, ↓bb r1, ↓bb hA, n_i8, n_i16, n_0, n_31, n_add, n_sub, n_mul, n_neg, n_div, n_rem, n_le_t, n_le_f, n_lt_t, n_lt_f, n_eq_t, n_eq_f, n_cl, n_gd, n_gdt, n_nz, Int.reduceToNat, Int.reduceAdd, Int.reduceSub, Int.reduceMul, Int.reduceNeg, Int.reduceLT, Int.reduceLE, Int.reduceEq, Int.reduceDiv, Int.reduceMod, Nat.reduceAdd, Nat.reduceMul, ↓reduceIte]
theorem Q_fact {c : Cur} {cs W : List Int} {o : Int} {s : ST} {F : Nat} (h : MZ T n true 0 c cs W o s) (h91 : isSg T n c 91 = false) (h29 : isWL T n c (WDl 29) = false) {d : Nat} (hd : o + (d : Int) = 6) (hT : tp W = -1 ∨ (10 ≤ tp W ∧ tp W ≤ 25)) : ∃ s', RQf s s' ∧ RQ (factS T n d c) (fun a => TM K (F + 1) s = (f_X10_qDropsNots s').bind (G1t K F) ∧ MZ T n true 0 a.2 (cs ++ a.1) W o s') (fun k q => (∀ F' : Nat, F = F' + 1 → TM K (F + 1) s = K s') ∧ RB k q s') := by
  obtain ⟨s1, q1, q2, q3, q4⟩ := m_lookQ h
  have hbad := h.1.b.1
  have hlb := lkV_b (f := frm T n c) q2.b.2.2.2 (by have := q2.b.2.2.1; omega)
  have e91 : ¬ lkV T n (frm T n c) = 91 := fun x => by rw [sg_lk (by omega), decide_eq_true x] at h91; cases h91
  have a29 : f_X10_isHere 129 s1 = some (bI (isWL T n c (WDl 29)), s1) := m_isHereL q2 q3.2.1 (o := 129) (by unfold wce; omega)
  rw [h29] at a29
  have a29 : f_X10_isHere 129 s1 = some (Int32.ofInt 0, s1) := a29
  obtain ⟨s2, p1, p2, p3⟩ := m_qFact q3 hd hT
  have ef : TM K (F + 1) s = (f_X10_qDropsNots s2).bind (G1t K F) := by
    unfold TM
    rw [f_X10_qTest_L2]
    simp (disch := omega) only [hbad, ↓bb q1, ↓bb a29, ↓bb p1, n_i8, n_i16, n_0, n_31, n_add, n_sub, n_mul, n_neg, n_div, n_rem, n_le_t, n_le_f, n_lt_t, n_lt_f, n_eq_t, n_eq_f, n_cl, n_gd, n_gdt, n_nz, Int.reduceToNat, Int.reduceAdd, Int.reduceSub, Int.reduceMul, Int.reduceNeg, Int.reduceLT, Int.reduceLE, Int.reduceEq, Int.reduceDiv, Int.reduceMod, Nat.reduceAdd, Nat.reduceMul, ↓reduceIte]
    rfl
  refine ⟨s2, q4.tr p2, ?_⟩
  exact RQ.mp p3 (fun a _ x => ⟨ef, x⟩) (fun k q x => ⟨fun F' hF => by rw [ef, N_b x, bnd, hF]; exact G1t_b x, x⟩)
