/-! L3: the reference reads SUMS as the grammar says, on -/
variable {K : Int32 → ST → Option ST} {x1 : Int32} {T : Int → Int} {n : Int} {m : Bool}
theorem lk_W {c : Cur} (hW : isW T n c = true) : 97 ≤ lkV T n (frm T n c) ∧ lkV T n (frm T n c) ≤ 122 := by
  unfold isW at hW
  rw [Bool.and_eq_true, Bool.and_eq_true, decide_eq_true_iff] at hW
  have : 97 ≤ T (frm T n c) ∧ T (frm T n c) ≤ 122 := of_decide_eq_true hW.1.2
  unfold lkV
  rw [if_pos hW.1.1]
  exact this
theorem P_pair {b : Int} {c : Cur} {cs W : List Int} {o z : Int} {s : ST} {F1 F2 : Nat} (h : MZ T n m b c cs W o s) (hs : (z = 21 ∧ isWL T n c (WDl 31) = true) ∨ (z = 22 ∧ isWL T n c (WDl 32) = true)) : (isSg T n (nxW T n c) 40 = true → o < 6 → ∃ s', PM K x1 (F1 + 1) F2 s = PM K x1 F1 F2 s' ∧ MZ T n m b (nxS T n (nxW T n c)) cs (W ++ [z]) (o + 1) s' ∧ RQf s s') ∧ (isSg T n (nxW T n c) 40 = true → o = 6 → ∃ s', PM K x1 (F1 + 1 + 1) (F2 + 1) s = K x1 s' ∧ RB 4 (frm T n (nxW T n c)) s' ∧ QN s' ∧ RQf s s') ∧ (isSg T n (nxW T n c) 40 = false → ∃ s', PM K x1 (F1 + 1 + 1) (F2 + 1) s = K x1 s' ∧ RB 1 (frm T n (nxW T n c)) s' ∧ QN s' ∧ RQf s s') := by
  have hn := h.nb
  have hW : isW T n c = true := by
    rcases hs with hs | hs
    · exact isWL_W hs.2
    · exact isWL_W hs.2
  have hwb := wd_b hW hn.1 hn.2.1
  have hsz := h.2.2.2.2
  have hlw := lk_W hW
  obtain ⟨s1, q1, q2, q3, q4⟩ := m_lookQ h
  have hbad := h.1.b.1
  have hix : wix T n c = 31 ∨ wix T n c = 32 := by
    rcases hs with hs | hs
    · have := hs.2
      rw [isWL_ix (by omega), Bool.and_eq_true, decide_eq_true_iff] at this
      exact Or.inl this.2
    · have := hs.2
      rw [isWL_ix (by omega), Bool.and_eq_true, decide_eq_true_iff] at this
      exact Or.inr this.2
  have hw := (m_w11 q2 q3.2.1 q3.2.2.2.1.1).2 (fun x => by
    have := x.2
    rw [isWL_ix (by omega), Bool.and_eq_true, decide_eq_true_iff] at this
    have := this.2
    omega)
  have a31 : f_X10_isHere 133 s1 = some (bI (isWL T n c (WDl 31)), s1) := m_isHereL q2 q3.2.1 (o := 133) (by unfold wce; omega)
  have a32 : f_X10_isHere 134 s1 = some (bI (isWL T n c (WDl 32)), s1) := m_isHereL q2 q3.2.1 (o := 134) (by unfold wce; omega)
  -- behind the word
  have hgo : ∃ (x4 : Int) (s3 : ST), ((z = 21 ∧ x4 = 1) ∨ (z = 22 ∧ x4 = 0)) ∧ (∀ F : Nat, f_X10_qPartTold_L2 f_X10_qPartTold_j186 (F + 1) (Int32.ofInt 1) s = f_X10_qPartTold_j101 (f_X10_qPartTold_L2 f_X10_qPartTold_j186 F) (Int32.ofInt 1) (Int32.ofInt x4) s3) ∧ MZ T n m b (nxW T n c) cs W o s3 ∧ RQf s s3 := by
    obtain ⟨s2, p1, p2, p3, p4⟩ := m_takes q3.1 q3.2.1 (o := 133) (by unfold wce; omega)
    rcases hs with ⟨hz, h31⟩ | ⟨hz, h32⟩
    · have e31 : isWL T n c (WDl (wno 133)) = true := h31
      rw [e31] at p1
      have p2 := p2 e31
      rw [h31] at a31
      refine ⟨1, s2, Or.inl ⟨hz, rfl⟩, fun F => ?_, q3.p p4 p2 (by omega), q4.tr p4.q⟩
      have p1 : f_X10_takes 133 s1 = some (Int32.ofInt 1, s2) := p1
      have a31 : f_X10_isHere 133 s1 = some (Int32.ofInt 1, s1) := a31
      rw [f_X10_qPartTold_L2]
      simp (disch := omega) only [f_X10_qPartTold_j78, hbad, ↓bb q1, ↓bb hw, ↓bb a31, ↓bb p1, n_i8, n_i16, n_0, n_31, n_add, n_sub, n_mul, n_neg, n_div, n_rem, n_le_t, n_le_f, n_lt_t, n_lt_f, n_eq_t, n_eq_f, n_cl, n_gd, n_gdt, n_nz, Int.reduceToNat, Int.reduceAdd, Int.reduceSub, Int.reduceMul, Int.reduceNeg, Int.reduceLT, Int.reduceLE, Int.reduceEq, Int.reduceDiv, Int.reduceMod, Nat.reduceAdd, Nat.reduceMul, ↓reduceIte]
    · have h31 : isWL T n c (WDl 31) = false := by
        rw [isWL_ix (by omega), hW, Bool.true_and]
        refine decide_eq_false (fun x => ?_)
        rw [isWL_ix (by omega), Bool.and_eq_true, decide_eq_true_iff] at h32
        have := h32.2
        omega
      have e31 : isWL T n c (WDl (wno 133)) = false := h31
      rw [e31] at p1
      have p3 := p3 e31
      rw [h31] at a31
      rw [h32] at a32
      have p1 : f_X10_takes 133 s1 = some (Int32.ofInt 0, s2) := p1
      have a31 : f_X10_isHere 133 s1 = some (Int32.ofInt 0, s1) := a31
      have a32 : f_X10_isHere 134 s1 = some (Int32.ofInt 1, s1) := a32
      have hM2 : MZ T n m b c cs W o s2 := q3.p p4 p3.rc (by omega)
      obtain ⟨s3, r1, r2, -, r4⟩ := m_asks hM2.1 hM2.2.1 (o := 134) (by unfold wce; omega)
      refine ⟨0, s3, Or.inr ⟨hz, rfl⟩, fun F => ?_, hM2.p r4 (r2 h32) (by omega), (q4.tr p4.q).tr r4.q⟩
      rw [f_X10_qPartTold_L2]
      simp (disch := omega) only [f_X10_qPartTold_j78, hbad, ↓bb q1, ↓bb hw, ↓bb a31, ↓bb a32, ↓bb p1, ↓bb r1, n_i8, n_i16, n_0, n_31, n_add, n_sub, n_mul, n_neg, n_div, n_rem, n_le_t, n_le_f, n_lt_t, n_lt_f, n_eq_t, n_eq_f, n_cl, n_gd, n_gdt, n_nz, Int.reduceToNat, Int.reduceAdd, Int.reduceSub, Int.reduceMul, Int.reduceNeg, Int.reduceLT, Int.reduceLE, Int.reduceEq, Int.reduceDiv, Int.reduceMod, Nat.reduceAdd, Nat.reduceMul, ↓reduceIte]
  obtain ⟨x4, s3, hx4, hL, hM3, hF3⟩ := hgo
  obtain ⟨s4, t1, t2, t3, t4⟩ := m_lookQ hM3
  have h42 := t2.b.2.1
  have h45 := t2.b.1
  have hfb := t2.b.2.2.1
  have hlb := lkV_b (f := frm T n (nxW T n c)) t2.b.2.2.2 (by omega)
  have go139 : ∀ F : Nat, lkV T n (frm T n (nxW T n c)) = 40 → f_X10_qPartTold_j101 (f_X10_qPartTold_L2 f_X10_qPartTold_j186 F) (Int32.ofInt 1) (Int32.ofInt x4) s3 = (f_X10_qOpens (Int32.ofInt z) (Int32.ofInt (frm T n (nxW T n c))) s4).bind (fun q31 => (f_X10_qPartTold_j144 (f_X10_qPartTold_L2 f_X10_qPartTold_j186 F)) (Int32.ofInt 1) q31) := by
    intro F e40
    rw [e40] at t1
    rcases hx4 with ⟨rfl, rfl⟩ | ⟨rfl, rfl⟩
    · simp (disch := omega) only [f_X10_qPartTold_j101, f_X10_qPartTold_j118, f_X10_qPartTold_j139, ↓bb t1, h42, n_i8, n_i16, n_0, n_31, n_add, n_sub, n_mul, n_neg, n_div, n_rem, n_le_t, n_le_f, n_lt_t, n_lt_f, n_eq_t, n_eq_f, n_cl, n_gd, n_gdt, n_nz, Int.reduceToNat, Int.reduceAdd, Int.reduceSub, Int.reduceMul, Int.reduceNeg, Int.reduceLT, Int.reduceLE, Int.reduceEq, Int.reduceDiv, Int.reduceMod, Nat.reduceAdd, Nat.reduceMul, ↓reduceIte]
    · simp (disch := omega) only [f_X10_qPartTold_j101, f_X10_qPartTold_j118, f_X10_qPartTold_j139, ↓bb t1, h42, n_i8, n_i16, n_0, n_31, n_add, n_sub, n_mul, n_neg, n_div, n_rem, n_le_t, n_le_f, n_lt_t, n_lt_f, n_eq_t, n_eq_f, n_cl, n_gd, n_gdt, n_nz, Int.reduceToNat, Int.reduceAdd, Int.reduceSub, Int.reduceMul, Int.reduceNeg, Int.reduceLT, Int.reduceLE, Int.reduceEq, Int.reduceDiv, Int.reduceMod, Nat.reduceAdd, Nat.reduceMul, ↓reduceIte]
  refine ⟨fun hsg ho => ?_, fun hsg ho => ?_, fun hsg => ?_⟩
  · have e40 : lkV T n (frm T n (nxW T n c)) = 40 := of_decide_eq_true (by rw [← sg_lk (by omega)]; exact hsg)
    have hsb := sg_b hsg (by omega) hwb.2
    obtain ⟨s5, r1, r2, r3⟩ := m_qopens t3.2.2.1 h45 ho (by omega) (v := z) (by omega) (by omega) (Int32.ofInt (frm T n (nxW T n c)))
    have hM5 : RC T n (nxW T n c) s5 := RC_fr t3.1 (r3.1 65 2 (by omega) (by omega) (by omega)) (r3.1 65 3 (by omega) (by omega) (by omega)) (r3.1 65 4 (by omega) (by omega) (by omega)) (r3.1 65 5 (by omega) (by omega) (by omega)) (r3.1 65 6 (by omega) (by omega) (by omega)) (fun k => r3.1 66 k (by omega) (by omega) (by omega))
    obtain ⟨s6, v1, v2, -, v4⟩ := m_asign hM5 (ch := 40) (by omega) (by omega)
    have hM6 : MZ T n m b (nxS T n (nxW T n c)) cs (W ++ [z]) (o + 1) s6 := by
      obtain ⟨g1, g2, g3, ⟨g4, g5, g6, g7⟩, g8⟩ := t3
      exact ⟨v2 hsg, WDS_fr g2 (fun o k ho => (v4.1 o k (by omega)).trans (r3.1 o k (by omega) (by omega) (by omega))), QS_fr r2 v4, ⟨(v4.1 65 59 (by omega)).trans ((r3.1 65 59 (by omega) (by omega) (by omega)).trans g4), (v4.1 65 115 (by omega)).trans ((r3.1 65 115 (by omega) (by omega) (by omega)).trans g5), g6, by rw [ln1]; omega⟩, by rw [ln1]; omega⟩
    refine ⟨s6, ?_, hM6, ((hF3.tr t4).tr r3.q).tr v4.q⟩
    unfold PM
    rw [hL F1, go139 F1 e40]
    simp (disch := omega) only [f_X10_qPartTold_j144, ↓bb r1, ↓bb v1, n_i8, n_i16, n_0, n_31, n_add, n_sub, n_mul, n_neg, n_div, n_rem, n_le_t, n_le_f, n_lt_t, n_lt_f, n_eq_t, n_eq_f, n_cl, n_gd, n_gdt, n_nz, Int.reduceToNat, Int.reduceAdd, Int.reduceSub, Int.reduceMul, Int.reduceNeg, Int.reduceLT, Int.reduceLE, Int.reduceEq, Int.reduceDiv, Int.reduceMod, Nat.reduceAdd, Nat.reduceMul, ↓reduceIte]
  · have e40 : lkV T n (frm T n (nxW T n c)) = 40 := of_decide_eq_true (by rw [← sg_lk (by omega)]; exact hsg)
    subst ho
    obtain ⟨s5, r1, r2, r3⟩ := m_qopens6 t3.2.2.1 h45 (Int32.ofInt z) (frm T n (nxW T n c))
    have hA := m_asignB r2 (Int32.ofInt 40)
    refine ⟨s5, ?_, r2, QN.mk t3 r3, (hF3.tr t4).tr r3.q⟩
    rw [← PM_b (K := K) (x1 := x1) r2 F1 F2]
    unfold PM
    rw [hL (F1 + 1), go139 (F1 + 1) e40]
    simp (disch := omega) only [f_X10_qPartTold_j144, ↓bb r1, ↓bb hA, n_i8, n_i16, n_0, n_31, n_add, n_sub, n_mul, n_neg, n_div, n_rem, n_le_t, n_le_f, n_lt_t, n_lt_f, n_eq_t, n_eq_f, n_cl, n_gd, n_gdt, n_nz, Int.reduceToNat, Int.reduceAdd, Int.reduceSub, Int.reduceMul, Int.reduceNeg, Int.reduceLT, Int.reduceLE, Int.reduceEq, Int.reduceDiv, Int.reduceMod, Nat.reduceAdd, Nat.reduceMul, ↓reduceIte]
  · have e40 : ¬ lkV T n (frm T n (nxW T n c)) = 40 := fun x => by rw [sg_lk (by omega), decide_eq_true x] at hsg; cases hsg
    obtain ⟨s5, r1, -, r3, r4⟩ := m_asign t3.1 (ch := 40) (by omega) (by omega)
    have r3 := r3 hsg
    refine ⟨s5, ?_, r3, QN.mk t3 r4, (hF3.tr t4).tr r4.q⟩
    rw [← PM_b (K := K) (x1 := x1) r3 F1 F2]
    unfold PM
    rw [hL (F1 + 1)]
    simp (disch := omega) only [f_X10_qPartTold_j101, f_X10_qPartTold_j118, f_X10_qPartTold_j144, ↓bb t1, ↓bb r1, n_i8, n_i16, n_0, n_31, n_add, n_sub, n_mul, n_neg, n_div, n_rem, n_le_t, n_le_f, n_lt_t, n_lt_f, n_eq_t, n_eq_f, n_cl, n_gd, n_gdt, n_nz, Int.reduceToNat, Int.reduceAdd, Int.reduceSub, Int.reduceMul, Int.reduceNeg, Int.reduceLT, Int.reduceLE, Int.reduceEq, Int.reduceDiv, Int.reduceMod, Nat.reduceAdd, Nat.reduceMul, ↓reduceIte]
theorem m_endsB {k p : Int} {s : ST} (h : RB k p s) : f_X10_qEndsPart s = some s := by
  obtain ⟨F, hF⟩ : ∃ F, fuel = F + 1 := ⟨99999, rfl⟩
  unfold f_X10_qEndsPart
  rw [hF, f_X10_qEndsPart_L0, if_neg h.ne]
/-- nothing more opens: a number or a word -/
theorem P_end {b : Int} {c : Cur} {cs W : List Int} {o : Int} {s : ST} {F1 F2 : Nat} (h : MZ T n m b c cs W o s) (h40 : isSg T n c 40 = false) (h31 : isWL T n c (WDl 31) = false) (h32 : isWL T n c (WDl 32) = false) (h20 : ¬ (m = true ∧ isWL T n c (WDl 20) = true)) : (isW T n c = true ∧ isF m (wix T n c) = true → ∃ s', PM K x1 (F1 + 1 + 1) F2 s = (f_X10_qEndsPart s').bind (G1 K x1 F2) ∧ MZ T n m b (nxW T n c) (cs ++ [40 + fk (wix T n c)]) W o s' ∧ RQf s s') ∧ (¬ (isW T n c = true ∧ isF m (wix T n c) = true) → RQ (numS T n c 0 9999) (fun a => ∃ s', PM K x1 (F1 + 1 + 1) F2 s = (f_X10_qEndsPart s').bind (G1 K x1 F2) ∧ MZ T n m b a.2 (cs ++ [1000 + a.1]) W o s' ∧ RQf s s') (fun k q => ∃ s', PM K x1 (F1 + 1 + 1) (F2 + 1) s = K x1 s' ∧ RB k q s' ∧ QN s' ∧ RQf s s')) := by
  have hn := h.nb
  have hsz := h.2.2.2.2
  obtain ⟨s1, q1, q2, q3, q4⟩ := m_lookQ h
  have hbad := h.1.b.1
  have hbad1 := q2.b.1
  have hlb := lkV_b (f := frm T n c) q2.b.2.2.2 (by have := q2.b.2.2.1; omega)
  have e40 : ¬ lkV T n (frm T n c) = 40 := fun x => by rw [sg_lk (by omega), decide_eq_true x] at h40; cases h40
  have hw := (m_w11 q2 q3.2.1 q3.2.2.2.1.1).2 h20
  have a31 : f_X10_isHere 133 s1 = some (bI (isWL T n c (WDl 31)), s1) := m_isHereL q2 q3.2.1 (o := 133) (by unfold wce; omega)
  have a32 : f_X10_isHere 134 s1 = some (bI (isWL T n c (WDl 32)), s1) := m_isHereL q2 q3.2.1 (o := 134) (by unfold wce; omega)
  rw [h31] at a31
  rw [h32] at a32
  have a31 : f_X10_isHere 133 s1 = some (Int32.ofInt 0, s1) := a31
  have a32 : f_X10_isHere 134 s1 = some (Int32.ofInt 0, s1) := a32
  have hL : f_X10_qPartTold_L2 f_X10_qPartTold_j186 (F1 + 1 + 1) (Int32.ofInt 1) s = f_X10_qPartTold_j186 s1 := by
    have e2 : f_X10_qPartTold_L2 f_X10_qPartTold_j186 (F1 + 1) (Int32.ofInt 0) s1 = f_X10_qPartTold_j186 s1 := by
      rw [f_X10_qPartTold_L2]
      simp (disch := omega) only [n_i8, n_i16, n_0, n_31, n_add, n_sub, n_mul, n_neg, n_div, n_rem, n_le_t, n_le_f, n_lt_t, n_lt_f, n_eq_t, n_eq_f, n_cl, n_gd, n_gdt, n_nz, Int.reduceToNat, Int.reduceAdd, Int.reduceSub, Int.reduceMul, Int.reduceNeg, Int.reduceLT, Int.reduceLE, Int.reduceEq, Int.reduceDiv, Int.reduceMod, Nat.reduceAdd, Nat.reduceMul, ↓reduceIte]
    rw [← e2, f_X10_qPartTold_L2]
    simp (disch := omega) only [hbad, ↓bb q1, ↓bb hw, ↓bb a31, ↓bb a32, n_i8, n_i16, n_0, n_31, n_add, n_sub, n_mul, n_neg, n_div, n_rem, n_le_t, n_le_f, n_lt_t, n_lt_f, n_eq_t, n_eq_f, n_cl, n_gd, n_gdt, n_nz, Int.reduceToNat, Int.reduceAdd, Int.reduceSub, Int.reduceMul, Int.reduceNeg, Int.reduceLT, Int.reduceLE, Int.reduceEq, Int.reduceDiv, Int.reduceMod, Nat.reduceAdd, Nat.reduceMul, ↓reduceIte]
  obtain ⟨w1, w2⟩ := m_w0 q2 q3.2.1 q3.2.2.2.1.1
  constructor
  · intro hx
    obtain ⟨v1, v2, v3⟩ := w1 hx
    obtain ⟨u1, u2, u3⟩ := fk_w hx.2
    have hwb := wd_b hx.1 hn.1 hn.2.1
    obtain ⟨s2, r1, r2, -, r4⟩ := m_asks q3.1 q3.2.1 (o := 135 + (fk (wix T n c)).toNat) (by unfold wce; omega)
    have r2 : RC T n (nxW T n c) s2 := r2 (by
      rw [u1, isWL_ix (by omega), hx.1, Bool.true_and]
      exact decide_eq_true (by omega))
    have hM2 : MZ T n m b (nxW T n c) cs W o s2 := q3.p r4 r2 (by omega)
    obtain ⟨s3, p1, p2, p3⟩ := m_qcode hM2.2.2.1 (by omega) (40 + fk (wix T n c))
    refine ⟨s3, ?_, hM2.w p3 p2 (by have := h.2.2.2.1.2.2.2; omega) (by rw [ln1]; omega), (q4.tr r4.q).tr p3.q⟩
    unfold PM
    rw [hL]
    have ej : f_X10_qPartTold_j186 s1 = f_X10_qEndsPart s3 := by
      have v2' := m_askw v2 v3 s1
      rw [r1] at v2'
      simp (disch := omega) only [f_X10_qPartTold_j186, f_X10_qPartTold_j212, f_X10_qPartTold_j237, hbad1, ↓bb v1, ↓bb v2', ↓bb p1, n_i8, n_i16, n_0, n_31, n_add, n_sub, n_mul, n_neg, n_div, n_rem, n_le_t, n_le_f, n_lt_t, n_lt_f, n_eq_t, n_eq_f, n_cl, n_gd, n_gdt, n_nz, Int.reduceToNat, Int.reduceAdd, Int.reduceSub, Int.reduceMul, Int.reduceNeg, Int.reduceLT, Int.reduceLE, Int.reduceEq, Int.reduceDiv, Int.reduceMod, Nat.reduceAdd, Nat.reduceMul, ↓reduceIte, Option.bind_fun_some]
    rw [ej]
  · intro hx
    have v1 := w2 hx
    obtain ⟨v, s2, r1, r2, r3⟩ := m_number q3.1 (lo := 0) (hi := 9999) (by omega) (by omega) (by omega) (by omega)
    have ej : f_X10_qPartTold_j186 s1 = f_X10_qPartTold_j237 (Int32.ofInt 1000 + v) s2 := by
      simp (disch := omega) only [f_X10_qPartTold_j186, f_X10_qPartTold_j212, hbad1, ↓bb v1, ↓bb r1, n_i8, n_i16, n_0, n_31, n_add, n_sub, n_mul, n_neg, n_div, n_rem, n_le_t, n_le_f, n_lt_t, n_lt_f, n_eq_t, n_eq_f, n_cl, n_gd, n_gdt, n_nz, Int.reduceToNat, Int.reduceAdd, Int.reduceSub, Int.reduceMul, Int.reduceNeg, Int.reduceLT, Int.reduceLE, Int.reduceEq, Int.reduceDiv, Int.reduceMod, Nat.reduceAdd, Nat.reduceMul, ↓reduceIte]
    cases eS : numS T n c 0 9999 with
    | ok a =>
      rw [eS] at r3
      obtain ⟨u1, u2, -⟩ := (r3 : v = Int32.ofInt a.1 ∧ RC T n a.2 s2 ∧ s2.1 65 10 = Int32.ofInt (frm T n c))
      have hc2 : c.1 < a.2.1 := by
        unfold numS at eS
        have hfb := frm_b (T := T) hn.1 hn.2.1
        split at eS
        · rename_i hN
          have hE := nmE_b hN hn.2.1
          split at eS
          · split at eS
            · cases eS
              show c.1 < nmE T n c
              omega
            · cases eS
          · cases eS
        · cases eS
      have hM2 : MZ T n m b a.2 cs W o s2 := q3.p r2 u2 (by omega)
      obtain ⟨s3, p1, p2, p3⟩ := m_qcode hM2.2.2.1 (by omega) (1000 + a.1)
      refine RQ.ok ⟨s3, ?_, hM2.w p3 p2 (by have := h.2.2.2.1.2.2.2; omega) (by rw [ln1]; omega), (q4.tr r2.q).tr p3.q⟩
      unfold PM
      rw [hL, ej, u1, n_add]
      unfold f_X10_qPartTold_j237
      rw [p1, bnd, Option.bind_fun_some]
    | error x =>
      rw [eS] at r3
      have r3 : RB x.1 x.2 s2 := r3
      have hQ2 := QS_fr q3.2.2.1 r2
      obtain ⟨w, hwv⟩ : ∃ w : Int, Int32.ofInt 1000 + v = Int32.ofInt w := ⟨(Int32.ofInt 1000 + v).toInt, (Int32.ofInt_toInt _).symm⟩
      obtain ⟨s3, p1, p2, p3⟩ := m_qcode hQ2 (by omega) w
      have hB3 : RB x.1 x.2 s3 := RB_fr r3 (p3.1 65 5 (by omega) (by omega) (by omega)) (p3.1 65 6 (by omega) (by omega) (by omega))
      refine RQ.er ⟨s3, ?_, hB3, QN.qs p2 (by rw [ln1]; omega), (q4.tr r2.q).tr p3.q⟩
      unfold PM
      rw [hL, ej, hwv]
      unfold f_X10_qPartTold_j237
      rw [p1, bnd, m_endsB hB3, bnd, bnd]
      exact G1_b hB3
/-! a part has ended -/
theorem E_stop {b : Int} {c : Cur} {cs W : List Int} {o : Int} {s : ST} {F : Nat} (h : MZ T n m b c cs W o s) (hT : tp W < 60) : f_X10_qEndsPart_L0 (F + 1) s = some s := by
  have hn := h.nb
  have hsz := h.2.2.2.2
  have h5 := h.1.b.1
  have h3 := h.2.2.1.2.1.1
  have hb := h.2.2.2.1
  have h115 := hb.2.1
  by_cases e : (W.length : Int) = b
  · simp (disch := omega) only [f_X10_qEndsPart_L0, h5, h3, h115, n_i8, n_i16, n_0, n_31, n_add, n_sub, n_mul, n_neg, n_div, n_rem, n_le_t, n_le_f, n_lt_t, n_lt_f, n_eq_t, n_eq_f, n_cl, n_gd, n_gdt, n_nz, Int.reduceToNat, Int.reduceAdd, Int.reduceSub, Int.reduceMul, Int.reduceNeg, Int.reduceLT, Int.reduceLE, Int.reduceEq, Int.reduceDiv, Int.reduceMod, Nat.reduceAdd, Nat.reduceMul, ↓reduceIte]
  · rcases ls_cases W with rfl | ⟨W', v, rfl⟩
    · exfalso
      have : (([] : List Int).length : Int) = 0 := rfl
      omega
    · rw [tp_c] at hT
      have ht := h.2.2.1.top
      rw [ln1] at h3 hsz e hb
      rw [show ((W'.length + 1 : Nat) : Int) = (W'.length : Int) + 1 by omega] at h3
      have ecl : (Int32.ofInt (W'.length : Int)).toNatClampNeg = W'.length := by rw [n_cl (by omega) (by omega)]; omega
      have egd : ∀ {α : Type} {y : Option α}, gd (ib (Int32.ofInt (W'.length : Int)) 1700) y = y := by intro α y; exact n_gd (by omega) (by omega) (by omega)
      have e3 : Int32.ofInt ((W'.length : Int) + 1) - Int32.ofInt 1 = Int32.ofInt (W'.length : Int) := by rw [n_sub, show (W'.length : Int) + 1 - 1 = (W'.length : Int) by omega]
      have et := ht.1
      simp (disch := omega) only [f_X10_qEndsPart_L0, h5, h3, h115, e3, ecl, egd, et, n_i8, n_i16, n_0, n_31, n_add, n_sub, n_mul, n_neg, n_div, n_rem, n_le_t, n_le_f, n_lt_t, n_lt_f, n_eq_t, n_eq_f, n_cl, n_gd, n_gdt, n_nz, Int.reduceToNat, Int.reduceAdd, Int.reduceSub, Int.reduceMul, Int.reduceNeg, Int.reduceLT, Int.reduceLE, Int.reduceEq, Int.reduceDiv, Int.reduceMod, Nat.reduceAdd, Nat.reduceMul, ↓reduceIte]
theorem E_pop {b : Int} {c : Cur} {cs W : List Int} {o : Int} {s : ST} {F : Nat} (h : MZ T n m b c cs (W ++ [60]) (o + 1) s) (hb : b ≤ (W.length : Int)) (o0 : 0 ≤ o) : ∃ s', f_X10_qEndsPart_L0 (F + 1) s = f_X10_qEndsPart_L0 F s' ∧ MZ T n m b c (cs ++ [60]) W o s' ∧ RQf s s' := by
  have hn := h.nb
  have hsz := h.2.2.2.2
  have h5 := h.1.b.1
  have h3 := h.2.2.1.2.1.1
  have h114 := h.2.2.1.2.2.1.1
  have ho6 := h.2.2.1.2.2.1.2
  have h115 := h.2.2.2.1.2.1
  have hb0 := h.2.2.2.1.2.2.1
  have ht := h.2.2.1.top
  rw [ln1] at h3 hsz
  rw [show ((W.length + 1 : Nat) : Int) = (W.length : Int) + 1 by omega] at h3
  obtain ⟨a1, a2⟩ := h.2.2.1.opn (o' := o) (by omega) (by omega)
  obtain ⟨s2, q1, q2, q3⟩ := m_qdrops a1 (by omega) (by omega)
  refine ⟨s2, ?_, h.w (a2.tr q3) q2 hb (by rw [ln1]; omega), (a2.tr q3).q⟩
  have ecl : (Int32.ofInt (W.length : Int)).toNatClampNeg = W.length := by rw [n_cl (by omega) (by omega)]; omega
  have egd : ∀ {α : Type} {y : Option α}, gd (ib (Int32.ofInt (W.length : Int)) 1700) y = y := by intro α y; exact n_gd (by omega) (by omega) (by omega)
  have e3 : Int32.ofInt ((W.length : Int) + 1) - Int32.ofInt 1 = Int32.ofInt (W.length : Int) := by rw [n_sub, show (W.length : Int) + 1 - 1 = (W.length : Int) by omega]
  have e4 : Int32.ofInt (o + 1) - Int32.ofInt 1 = Int32.ofInt o := by rw [n_sub, show o + 1 - 1 = o by omega]
  have et := ht.1
  rw [f_X10_qEndsPart_L0]
  simp (disch := omega) only [h5, h3, h114, h115, e3, e4, ecl, egd, et, q1, n_i8, n_i16, n_0, n_31, n_add, n_sub, n_mul, n_neg, n_div, n_rem, n_le_t, n_le_f, n_lt_t, n_lt_f, n_eq_t, n_eq_f, n_cl, n_gd, n_gdt, n_nz, Int.reduceToNat, Int.reduceAdd, Int.reduceSub, Int.reduceMul, Int.reduceNeg, Int.reduceLT, Int.reduceLE, Int.reduceEq, Int.reduceDiv, Int.reduceMod, Nat.reduceAdd, Nat.reduceMul, ↓reduceIte, ltd, bnd]
/-! what the three come to -/
section OKS
variable (T : Int → Int) (n : Int) (m : Bool) (K : Int32 → ST → Option ST) (x1 : Int32)
def BDr (Z : Option ST) (s : ST) (k q : Int) : Prop := ∃ s', Z = K x1 s' ∧ RB k q s' ∧ QN s' ∧ RQf s s'
def PaR (b : Int) (cs W : List Int) (o : Int) (Z : Option ST) (s : ST) (r : PR) : Prop := RQ r (fun a => ∃ (F4 F3 F2 : Nat) (X : ST → Option ST) (s' : ST), Z = (f_X10_qEndsPart_L0 F4 s').bind X ∧ (∀ t : ST, t.1 65 5 = Int32.ofInt 0 → X t = GM K x1 F3 F2 t) ∧ (fu n a.2 F3 ∧ fu n a.2 F2 ∧ (W.length : Int) < (F4 : Int)) ∧ MZ T n m b a.2 (cs ++ a.1) W o s' ∧ RQf s s') (fun k q => BDr K x1 Z s k q)
def PrR (b : Int) (cs W : List Int) (o : Int) (Z : Option ST) (s : ST) (r : PR) : Prop := RQ r (fun a => ∃ (F3 F2 : Nat) (s' : ST) (lm M : List Int), Z = GM K x1 F3 F2 s' ∧ (fu n a.2 F3 ∧ fu n a.2 F2) ∧ MZ T n m b a.2 (cs ++ lm) (W ++ M.reverse) o s' ∧ a.1 = lm ++ M ∧ (∀ v ∈ M, v = 3 ∨ v = 4) ∧ (isSg T n a.2 42 = false ∧ isSg T n a.2 47 = false) ∧ RQf s s') (fun k q => BDr K x1 Z s k q)
def SuR (b : Int) (cs W : List Int) (o : Int) (Z : Option ST) (s : ST) (r : PR) : Prop := RQ r (fun a => ∃ (F3 F2 : Nat) (s' : ST) (lm M : List Int), Z = GM K x1 F3 F2 s' ∧ (fu n a.2 F3 ∧ fu n a.2 F2) ∧ MZ T n m b a.2 (cs ++ lm) (W ++ M.reverse) o s' ∧ a.1 = lm ++ M ∧ (∀ v ∈ M, 1 ≤ v ∧ v ≤ 4) ∧ nop T n a.2 ∧ RQf s s') (fun k q => BDr K x1 Z s k q)
def PaOK (d : Nat) (p : Cur → PR) : Prop := ∀ (F1 F2 : Nat) (b : Int) (c : Cur) (cs W : List Int) (o : Int) (s : ST), o + (d : Int) = 6 → MZ T n m b c cs W o s → fu n c F1 → fu n c F2 → PaR T n m K x1 b cs W o (PM K x1 F1 F2 s) s (p c)
def PrOK (d : Nat) (p : Cur → PR) : Prop := ∀ (F1 F2 : Nat) (b : Int) (c : Cur) (cs W : List Int) (o : Int) (s : ST), o + (d : Int) = 6 → MZ T n m b c cs W o s → fu n c F1 → fu n c F2 → ¬ tp W = 3 → ¬ tp W = 4 → tp W < 60 → PrR T n m K x1 b cs W o (PM K x1 F1 F2 s) s (p c)
def SuOK (d : Nat) (p : Cur → PR) : Prop := ∀ (F1 F2 : Nat) (b : Int) (c : Cur) (cs W : List Int) (o : Int) (s : ST), o + (d : Int) = 6 → MZ T n m b c cs W o s → fu n c F1 → fu n c F2 → CX b W → SuR T n m K x1 b cs W o (PM K x1 F1 F2 s) s (p c)
end OKS
theorem BDr.tr {Z : Option ST} {s t : ST} {k q : Int} (hf : RQf s t) (h : BDr K x1 Z t k q) : BDr K x1 Z s k q := by
  obtain ⟨s', h1, h2, hq, h3⟩ := h
  exact ⟨s', h1, h2, hq, hf.tr h3⟩
/-- from a part to what goes on -/
theorem PaR.g {b : Int} {cs W : List Int} {o : Int} {Z : Option ST} {s : ST} {a : List Int × Cur} (h : PaR T n m K x1 b cs W o Z s (.ok a)) (hT : tp W < 60) : ∃ (F3 F2 : Nat) (s' : ST), Z = GM K x1 F3 F2 s' ∧ (fu n a.2 F3 ∧ fu n a.2 F2) ∧ MZ T n m b a.2 (cs ++ a.1) W o s' ∧ RQf s s' := by
  obtain ⟨F4, F3, F2, X, s', h1, h2, ⟨h3, h4, h5⟩, h6, h7⟩ := h
  obtain ⟨F, rfl⟩ : ∃ F, F4 = F + 1 := ⟨F4 - 1, by omega⟩
  refine ⟨F3, F2, s', ?_, ⟨h3, h4⟩, h6, h7⟩
  rw [h1, E_stop h6 hT, bnd, h2 s' h6.1.b.1]
theorem sgN {c : Cur} {k : Int} (hk : n - c.1 ≤ k) (k0 : k = 0) (cn : c.1 ≤ n) {ch : Int} : isSg T n c ch = false := by
  have hf : c.1 ≤ frm T n c := (sk_b (p := isBk) (T := T) (n := n) _ c.1 rfl).1
  unfold isSg
  rw [decide_eq_false (show ¬ frm T n c < n by omega), Bool.false_and]
theorem fuN {c : Cur} {F : Nat} (h : fu n c F) (cn : c.1 ≤ n) : ∃ F', F = F' + 1 := ⟨F - 1, by unfold fu at h; omega⟩
theorem R_prL {d : Nat} {p : Cur → PR} (hp : PaOK T n m K x1 d p) (hb : SB n p) {b : Int} {cs W : List Int} {o : Int} (ho : o + (d : Int) = 6) (t3 : ¬ tp W = 3) (t4 : ¬ tp W = 4) (hbW : b ≤ (W.length : Int)) : ∀ (k F3 F2 : Nat) (c : Cur) (lm M : List Int) (s : ST), n - c.1 ≤ (k : Int) → MZ T n m b c (cs ++ lm) (W ++ M.reverse) o s → (∀ v ∈ M, v = 3 ∨ v = 4) → fu n c F3 → fu n c F2 → PrR T n m K x1 b cs W o (GM K x1 F3 F2 s) s (prodL T n p k (lm ++ M) c) := by
  intro k
  induction k with
  | zero =>
    intro F3 F2 c lm M s hk h hM f3 f2
    have hn := h.nb
    exact ⟨F3, F2, s, lm, M, rfl, ⟨f3, f2⟩, h, rfl, hM, ⟨sgN hk rfl hn.2.1, sgN hk rfl hn.2.1⟩, RQf.rf s⟩
  | succ k ih =>
    intro F3 F2 c lm M s hk h hM f3 f2
    have hn := h.nb
    obtain ⟨F3, rfl⟩ := fuN f3 hn.2.1
    obtain ⟨F2, rfl⟩ := fuN f2 hn.2.1
    have go : ∀ z ch : Int, (z = 3 ∧ ch = 42) ∨ (z = 4 ∧ ch = 47) → isSg T n c ch = true → PrR T n m K x1 b cs W o (GM K x1 (F3 + 1) (F2 + 1) s) s (sq (p (nxS T n c)) (fun l2 c2 => prodL T n p k (lm ++ M ++ l2 ++ [z]) c2)) := by
      intro z ch hz hsg
      have hsb := sg_b hsg hn.1 hn.2.1
      obtain ⟨s1, q1, q2, q3⟩ := G_mul (K := K) (x1 := x1) (F3 := F3) (F2 := F2) h hM ⟨t3, t4⟩ hbW hz hsg
      rw [q1]
      have hP := hp fuel F2 b (nxS T n c) (cs ++ lm ++ M) (W ++ [z]) o s1 ho q2 (fu_f (by omega) hn.2.2) (fu_m f2 hsb.1)
      have hr := hb (nxS T n c) (by omega) hsb.2
      cases e : p (nxS T n c) with
      | error x =>
        rw [e] at hP
        exact BDr.tr q3 hP
      | ok a =>
        rw [e] at hP hr
        obtain ⟨r1, r2, r3⟩ := (hr : (nxS T n c).1 + a.1.length ≤ a.2.1 ∧ (nxS T n c).1 < a.2.1 ∧ a.2.1 ≤ n)
        obtain ⟨F3', F2', s2, w1, ⟨w2, w3⟩, w4, w5⟩ := PaR.g hP (by rw [tp_c]; omega)
        rw [w1]
        have w4' : MZ T n m b a.2 (cs ++ (lm ++ M ++ a.1)) (W ++ ([z] : List Int).reverse) o s2 := by
          rw [List.reverse_singleton]
          rw [show cs ++ (lm ++ M ++ a.1) = cs ++ lm ++ M ++ a.1 by rw [List.append_assoc, List.append_assoc, List.append_assoc]]
          exact w4
        have hI := ih F3' F2' a.2 (lm ++ M ++ a.1) [z] s2 (by omega) w4' (fun v hv => by rw [List.mem_singleton.mp hv]; omega) w2 w3
        exact RQ.mp hI (fun a' _ x => by
          obtain ⟨A, B, s3, l3, M3, y1, y2, y3, y4, y5, y6, y7⟩ := x
          exact ⟨A, B, s3, l3, M3, y1, y2, y3, y4, y5, y6, (q3.tr w5).tr y7⟩) (fun k q x => BDr.tr (q3.tr w5) x)
    unfold prodL
    cases e1 : isSg T n c 42 with
    | true => exact go 3 42 (Or.inl ⟨rfl, rfl⟩) e1
    | false =>
      cases e2 : isSg T n c 47 with
      | true => exact go 4 47 (Or.inr ⟨rfl, rfl⟩) e2
      | false => exact ⟨F3 + 1, F2 + 1, s, lm, M, rfl, ⟨f3, f2⟩, h, rfl, hM, ⟨e1, e2⟩, RQf.rf s⟩
theorem R_prod {d : Nat} {p : Cur → PR} (hp : PaOK T n m K x1 d p) (hb : SB n p) : PrOK T n m K x1 d (prodD T n p) := by
  intro F1 F2 b c cs W o s ho h f1 f2 t3 t4 t60
  have hn := h.nb
  have hbW := h.2.2.2.1.2.2.2
  have hP := hp F1 F2 b c cs W o s ho h f1 f2
  have hr := hb c hn.1 hn.2.1
  unfold prodD
  cases e : p c with
  | error x => rw [e] at hP; exact hP
  | ok a =>
    rw [e] at hP hr
    obtain ⟨r1, r2, r3⟩ := (hr : c.1 + a.1.length ≤ a.2.1 ∧ c.1 < a.2.1 ∧ a.2.1 ≤ n)
    obtain ⟨F3', F2', s2, w1, ⟨w2, w3⟩, w4, w5⟩ := PaR.g hP t60
    rw [w1]
    have w4' : MZ T n m b a.2 (cs ++ a.1) (W ++ ([] : List Int).reverse) o s2 := by rw [List.reverse_nil, List.append_nil]; exact w4
    have hI := R_prL hp hb ho t3 t4 hbW 1600 F3' F2' a.2 a.1 [] s2 (by omega) w4' (fun v hv => by cases hv) w2 w3
    rw [List.append_nil] at hI
    exact RQ.mp hI (fun a' _ x => by
      obtain ⟨A, B, s3, l3, M3, y1, y2, y3, y4, y5, y6, y7⟩ := x
      exact ⟨A, B, s3, l3, M3, y1, y2, y3, y4, y5, y6, w5.tr y7⟩) (fun k q x => BDr.tr w5 x)
theorem R_suL {d : Nat} {p : Cur → PR} (hp : PrOK T n m K x1 d p) (hb : SB n p) {b : Int} {cs W : List Int} {o : Int} (ho : o + (d : Int) = 6) (hX : CX b W) : ∀ (k F3 F2 : Nat) (c : Cur) (lm M : List Int) (s : ST), n - c.1 ≤ (k : Int) → MZ T n m b c (cs ++ lm) (W ++ M.reverse) o s → (∀ v ∈ M, 1 ≤ v ∧ v ≤ 4) → (isSg T n c 42 = false ∧ isSg T n c 47 = false) → fu n c F3 → fu n c F2 → SuR T n m K x1 b cs W o (GM K x1 F3 F2 s) s (sumL T n p k (lm ++ M) c) := by
  have hXt := hX.t
  intro k
  induction k with
  | zero =>
    intro F3 F2 c lm M s hk h hM h4 f3 f2
    have hn := h.nb
    exact ⟨F3, F2, s, lm, M, rfl, ⟨f3, f2⟩, h, rfl, hM, ⟨h4.1, h4.2, sgN hk rfl hn.2.1, sgN hk rfl hn.2.1⟩, RQf.rf s⟩
  | succ k ih =>
    intro F3 F2 c lm M s hk h hM h4 f3 f2
    have hn := h.nb
    obtain ⟨F3, rfl⟩ := fuN f3 hn.2.1
    obtain ⟨F2, rfl⟩ := fuN f2 hn.2.1
    have go : ∀ z ch : Int, (z = 1 ∧ ch = 43) ∨ (z = 2 ∧ ch = 45) → isSg T n c ch = true → SuR T n m K x1 b cs W o (GM K x1 (F3 + 1) (F2 + 1) s) s (sq (p (nxS T n c)) (fun l2 c2 => sumL T n p k (lm ++ M ++ l2 ++ [z]) c2)) := by
      intro z ch hz hsg
      have hsb := sg_b hsg hn.1 hn.2.1
      obtain ⟨s1, q1, q2, q3⟩ := G_add (K := K) (x1 := x1) (F3 := F3) (F2 := F2) h hM (by omega) hXt.1 hz hsg
      rw [q1]
      have hP := hp fuel F2 b (nxS T n c) (cs ++ lm ++ M) (W ++ [z]) o s1 ho q2 (fu_f (by omega) hn.2.2) (fu_m f2 hsb.1) (by rw [tp_c]; omega) (by rw [tp_c]; omega) (by rw [tp_c]; omega)
      have hr := hb (nxS T n c) (by omega) hsb.2
      cases e : p (nxS T n c) with
      | error x =>
        rw [e] at hP
        exact BDr.tr q3 hP
      | ok a =>
        rw [e] at hP hr
        obtain ⟨r1, r2, r3⟩ := (hr : (nxS T n c).1 + a.1.length ≤ a.2.1 ∧ (nxS T n c).1 < a.2.1 ∧ a.2.1 ≤ n)
        obtain ⟨F3', F2', s2, l2, M2, w1, ⟨w2, w3⟩, w4, w5, w6, w7, w8⟩ := hP
        rw [w1]
        have w4' : MZ T n m b a.2 (cs ++ (lm ++ M ++ l2)) (W ++ (M2 ++ [z]).reverse) o s2 := by
          rw [List.reverse_append, List.reverse_singleton, ← List.append_assoc W]
          rw [show cs ++ (lm ++ M ++ l2) = cs ++ lm ++ M ++ l2 by rw [List.append_assoc, List.append_assoc, List.append_assoc]]
          exact w4
        have hI := ih F3' F2' a.2 (lm ++ M ++ l2) (M2 ++ [z]) s2 (by omega) w4' (fun v hv => by
          rcases List.mem_append.mp hv with hv | hv
          · have := w6 v hv; omega
          · rw [List.mem_singleton.mp hv]; omega) w7 w2 w3
        have el : lm ++ M ++ l2 ++ (M2 ++ [z]) = lm ++ M ++ a.1 ++ [z] := by rw [w5, ← List.append_assoc, ← List.append_assoc]
        rw [el] at hI
        exact RQ.mp hI (fun a' _ x => by
          obtain ⟨A, B, s3, l3, M3, y1, y2, y3, y4, y5, y6, y7⟩ := x
          exact ⟨A, B, s3, l3, M3, y1, y2, y3, y4, y5, y6, (q3.tr w8).tr y7⟩) (fun k q x => BDr.tr (q3.tr w8) x)
    unfold sumL
    cases e1 : isSg T n c 43 with
    | true => exact go 1 43 (Or.inl ⟨rfl, rfl⟩) e1
    | false =>
      cases e2 : isSg T n c 45 with
      | true => exact go 2 45 (Or.inr ⟨rfl, rfl⟩) e2
      | false => exact ⟨F3 + 1, F2 + 1, s, lm, M, rfl, ⟨f3, f2⟩, h, rfl, hM, ⟨h4.1, h4.2, e1, e2⟩, RQf.rf s⟩
theorem R_sum {d : Nat} {p : Cur → PR} (hp : PrOK T n m K x1 d p) (hb : SB n p) : SuOK T n m K x1 d (sumD T n p) := by
  intro F1 F2 b c cs W o s ho h f1 f2 hX
  have hn := h.nb
  have hXt := hX.t
  have hP := hp F1 F2 b c cs W o s ho h f1 f2 (by omega) (by omega) (by omega)
  have hr := hb c hn.1 hn.2.1
  unfold sumD
  cases e : p c with
  | error x => rw [e] at hP; exact hP
  | ok a =>
    rw [e] at hP hr
    obtain ⟨r1, r2, r3⟩ := (hr : c.1 + a.1.length ≤ a.2.1 ∧ c.1 < a.2.1 ∧ a.2.1 ≤ n)
    obtain ⟨F3', F2', s2, l2, M2, w1, ⟨w2, w3⟩, w4, w5, w6, w7, w8⟩ := hP
    rw [w1]
    have hI := R_suL hp hb ho hX 1600 F3' F2' a.2 l2 M2 s2 (by omega) w4 (fun v hv => by have := w6 v hv; omega) w7 w2 w3
    rw [← w5] at hI
    exact RQ.mp hI (fun a' _ x => by
      obtain ⟨A, B, s3, l3, M3, y1, y2, y3, y4, y5, y6, y7⟩ := x
      exact ⟨A, B, s3, l3, M3, y1, y2, y3, y4, y5, y6, w8.tr y7⟩) (fun k q x => BDr.tr w8 x)
