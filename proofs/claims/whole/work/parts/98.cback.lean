/-! L3: a move is taken back -/
theorem c_back {B : Brd} {G : Gam} {o p : Nat} {s : ST} (hG : Gv B G) {m x y : Int} (hk : okM B G m x y) (h : GA B (mvG B G m x y) o p s) : ∃ s', f_X3_carryBack o (Int32.ofInt m) (Int32.ofInt (pl G m)) (Int32.ofInt (mAt B G x y)) s = some s' ∧ GA B G o p s' ∧ Fm o s s' := by
  obtain ⟨⟨hB, hv⟩, ⟨ho, hp⟩, hP, hPB, hRP⟩ := h
  have hM : bM B ≤ 8 := hB.1.1.2.2.2.2.2.2.2.1
  have hW : bW B ≤ 5 := hB.1.1.2.1
  have hH : bH B ≤ 5 := hB.1.1.2.2.2.1
  obtain ⟨f1, f2, f3⟩ := okM_f hB hG hk
  have hkk := hk
  obtain ⟨⟨m0, m1⟩, ⟨x0, x1⟩, ⟨y0, y1⟩, hg⟩ := hkk
  have hpl := pl_b hB hG m0 m1
  have hq : 0 ≤ 5 * y + x ∧ 5 * y + x < 25 := by omega
  have hplm : 0 ≤ pl G m ∧ pl G m < 25 := by omega
  have hsdm := hB.2.2.1 m m0 m1
  have hcm : s.1 (o + 2) m.toNat = Int32.ofInt (5 * y + x) := by rw [hRP.1 m m0 m1, mvG_pl x0, if_pos rfl]
  have hbal := mvG_bal hB hG hk
  have hctn := mvG_ctn hB hG hk
  have hmf := mAt_from hB hG m0 m1 f1.1
  have hof : ∀ u, occ B G u (pl G m) = decide (sd B m = u) := fun u => occ_at hB hG m0 m1 (show ¬ gx G m = -1 by omega)
  have fin : ∀ (P : Int → Int) (S : Int → Int) (H : Int → Int → Bool) (l c : Int) (s' : ST), Fm o s s' → RP B o P S H l c s' → (∀ j, 0 ≤ j → j < bM B → P j = pl G j) → (∀ r, 0 ≤ r → r < 25 → S r = mAt B G (r % 5) (r / 5)) → (∀ u r, 0 ≤ u → u ≤ 1 → 0 ≤ r → r < 25 → H u r = occ B G u r) → l = bal B G 0 → c = ctn B G → GA B G o p s' := by
    intro P S H l c s' hF hR h1 h2 h3 h4 h5
    exact ⟨⟨hB, hG⟩, ⟨ho, hp⟩, by rw [hF.2]; exact hP, PB_Fm ho hp hPB hF, RP_congr hR h1 h2 (fun u r u0 u1 r0 r1 => h3 u r u0 u1 r0 r1) h4 h5⟩
  obtain ⟨s1, q1, q2, q3⟩ := c_lift hB ho hp hP hPB hRP m0 m1 hq.1 hq.2
  have hP1 : RR s1.2.2 o 0 = some p := by rw [q3.2]; exact hP
  obtain ⟨s2, q4, q5, q6⟩ := c_set hB ho hp hP1 (PB_Fm ho hp hPB q3) q2 m0 m1 hplm.1 hplm.2
  have F2 := q3.tr q6
  have hP2 : RR s2.2.2 o 0 = some p := by rw [F2.2]; exact hP
  have hmA : ∀ r, 0 ≤ r → r < 25 → mAt B (mvG B G m x y) (r % 5) (r / 5) = if r = 5 * y + x then m else if r = pl G m then -1 else mAt B G (r % 5) (r / 5) := by
    intro r r0 r1
    rw [mvG_mAt hB hG hk (by omega) (by omega)]
    by_cases e1 : r = 5 * y + x
    · have e1' : r % 5 = x ∧ r / 5 = y := by omega
      simp only [if_pos e1, if_pos e1']
    · have e1' : ¬ (r % 5 = x ∧ r / 5 = y) := by omega
      simp only [if_neg e1, if_neg e1']
      by_cases e2 : r = pl G m
      · have e2' : r % 5 = gx G m ∧ r / 5 = gy G m := by omega
        simp only [if_pos e2, if_pos e2']
      · have e2' : ¬ (r % 5 = gx G m ∧ r / 5 = gy G m) := by omega
        simp only [if_neg e2, if_neg e2']
  have hmq : mAt B G ((5 * y + x) % 5) ((5 * y + x) / 5) = mAt B G x y := by rw [show (5 * y + x) % 5 = x by omega, show (5 * y + x) / 5 = y by omega]
  have hmfr : mAt B G (pl G m % 5) (pl G m / 5) = m := by
    rcases hpl with hpl | hpl
    · omega
    · rw [hpl.2.2.2.2.2.2.2.1, hpl.2.2.2.2.2.2.2.2]; exact hmf
  have hocq : ∀ u, occ B G u (5 * y + x) = (decide (¬ mAt B G x y = -1) && decide (sd B (mAt B G x y) = u)) := by
    intro u
    unfold occ
    rw [hmq]
  have hne : ¬ 5 * y + x = pl G m := by omega
  by_cases e : mAt B G x y = -1
  · refine ⟨s2, ?_, fin _ _ _ _ _ s2 F2 q5 (fun j j0 j1 => ?_) (fun r r0 r1 => ?_) (fun u r u0 u1 r0 r1 => ?_) ?_ ?_, F2⟩
    · rw [e]
      simp (disch := omega) only [f_X3_carryBack, hcm, q1, q4, g_kk, g_k1, g_n1, g_k2, g_n2, g_k3, g_n3, g_k4, g_n4, g_k5, g_n5, g_k7, g_n7, g_k8, g_n8, g_k9, g_n9, g_k6, g_r3, g_r4, g_r5, g_r6, g_r7, g_r10, g_q0, g_q1, g_q2, p_kk, p_k1, p_n1, p_k2, p_n2, p_k3, p_n3, p_k4, p_n4, p_k5, p_n5, p_k6, p_n6, p_k7, p_n7, p_k8, p_n8, p_k9, p_n9, p_k10, p_n10, p_k11, p_n11, p_k13, p_n13, p_k12, p_r2, p_r4, p_r5, p_r6, p_r7, p_r9, p_r10, p_r11, p_r13, p_r14, p_r15, p_r16, p_h0, n_i8, n_i16, n_0, n_31, n_add, n_sub, n_mul, n_neg, n_div, n_rem, n_le_t, n_le_f, n_lt_t, n_lt_f, n_eq_t, n_eq_f, n_cl, n_gd, n_gdt, n_nz, Int.reduceToNat, Int.reduceAdd, Int.reduceSub, Int.reduceMul, Int.reduceNeg, Int.reduceLT, Int.reduceLE, Int.reduceEq, Int.reduceDiv, Int.reduceMod, Nat.reduceAdd, Nat.reduceMul, ↓reduceIte, u_eq, u_no, u_nk, u_ek, u_2, u_3, j_1, j_3, j_eq, j_no, j_nk, ltd, bnd]
    · unfold setP
      by_cases c1 : j = m
      · rw [if_pos c1, c1]
      · have c2 : ¬ j = mAt B G x y := by omega
        simp only [if_neg c1]
        rw [mvG_pl x0]
        simp only [if_neg c1, if_neg c2]
    · unfold setP
      by_cases c1 : r = pl G m
      · rw [if_pos c1, c1, hmfr]
      · rw [if_neg c1]
        by_cases c2 : r = 5 * y + x
        · rw [if_pos c2, c2, hmq, e]
        · simp only [if_neg c2]
          rw [hmA r r0 r1]
          simp only [if_neg c2, if_neg c1]
    · unfold addH remH
      rw [mvG_occ hB hG hk r0 r1]
      by_cases c0 : u = sd B m
      · rw [if_pos c0, if_pos c0]
        by_cases c1 : r = pl G m
        · rw [decide_eq_true c1, Bool.or_true, c1, hof, decide_eq_true c0.symm]
        · rw [decide_eq_false c1, Bool.or_false, if_neg c1]
          by_cases c2 : r = 5 * y + x
          · rw [if_pos c2, decide_eq_true c2, Bool.not_true, Bool.and_false, c2, hocq, e]; rfl
          · rw [if_neg c2, decide_eq_false c2, Bool.not_false, Bool.and_true]
      · rw [if_neg c0, if_neg c0]
        by_cases c2 : r = 5 * y + x
        · rw [if_pos c2, c2, hocq, e, decide_eq_false (fun c => c0 c.symm)]; rfl
        · rw [if_neg c2]
          by_cases c1 : r = pl G m
          · rw [if_pos c1, c1, hof, decide_eq_false (fun c => c0 c.symm)]
          · rw [if_neg c1]
    · rw [hbal, if_pos e]; omega
    · rw [hctn, if_pos e]; omega
  · rcases f3 with f3 | ⟨g1, g2, g3, g4, g5, g6⟩
    · exact absurd f3 e
    generalize ht : mAt B G x y = t at *
    have hsdt := hB.2.2.1 t g1 g2
    have hplt := pl_b hB hG g1 g2
    obtain ⟨s3, q7, q8, q9⟩ := c_set hB ho hp hP2 (PB_Fm ho hp hPB F2) q5 g1 g2 hq.1 hq.2
    have F3 := F2.tr q9
    have hP3 : RR s3.2.2 o 0 = some p := by rw [F3.2]; exact hP
    have hld := c_leadOf hB ho hp hP3 (PB_Fm ho hp hPB F3) g1 g2
    have l8 := q8.2.2.2.1
    rw [hbal, if_neg e] at l8
    have eb : bal B G 0 - ldV B t + ldV B t = bal B G 0 := by omega
    have q8b := RP_l q8 (bal B G 0)
    have F4 := F3.tr (Fm_8 o s3 (Int32.ofInt (bal B G 0)))
    have hcr := c_isCrown hB hp (PB_Fm ho hp hPB F4) g1 g2
    have l9 : (uI s3 o 8 (Int32.ofInt (bal B G 0))).1 o 9 = Int32.ofInt (ctn B G + b1 (isCr B t)) := by
      have := q8b.2.2.2.2
      rw [hctn, if_neg e] at this
      exact this
    have q8c := RP_c q8b (ctn B G)
    have F5 := F4.tr (Fm_9 o (uI s3 o 8 (Int32.ofInt (bal B G 0))) (Int32.ofInt (ctn B G)))
    refine ⟨_, ?_, fin _ _ _ _ _ _ F5 q8c (fun j j0 j1 => ?_) (fun r r0 r1 => ?_) (fun u r u0 u1 r0 r1 => ?_) rfl rfl, F5⟩
    · cases ec : isCr B t with
      | true =>
        rw [ec] at hcr l9
        have l9 : (uI s3 o 8 (Int32.ofInt (bal B G 0))).1 o 9 = Int32.ofInt (ctn B G + 1) := l9
        have ec : ctn B G + 1 - 1 = ctn B G := by omega
        simp (disch := omega) only [f_X3_carryBack, f_X3_carryBack_j67, hcm, q1, q4, q7, hld, l8, eb, l9, ec, hP3, hcr, bI_t, u_3, g_kk, g_k1, g_n1, g_k2, g_n2, g_k3, g_n3, g_k4, g_n4, g_k5, g_n5, g_k7, g_n7, g_k8, g_n8, g_k9, g_n9, g_k6, g_r3, g_r4, g_r5, g_r6, g_r7, g_r10, g_q0, g_q1, g_q2, p_kk, p_k1, p_n1, p_k2, p_n2, p_k3, p_n3, p_k4, p_n4, p_k5, p_n5, p_k6, p_n6, p_k7, p_n7, p_k8, p_n8, p_k9, p_n9, p_k10, p_n10, p_k11, p_n11, p_k13, p_n13, p_k12, p_r2, p_r4, p_r5, p_r6, p_r7, p_r9, p_r10, p_r11, p_r13, p_r14, p_r15, p_r16, p_h0, n_i8, n_i16, n_0, n_31, n_add, n_sub, n_mul, n_neg, n_div, n_rem, n_le_t, n_le_f, n_lt_t, n_lt_f, n_eq_t, n_eq_f, n_cl, n_gd, n_gdt, n_nz, Int.reduceToNat, Int.reduceAdd, Int.reduceSub, Int.reduceMul, Int.reduceNeg, Int.reduceLT, Int.reduceLE, Int.reduceEq, Int.reduceDiv, Int.reduceMod, Nat.reduceAdd, Nat.reduceMul, ↓reduceIte, ltd, bnd]
      | false =>
        rw [ec] at hcr l9
        have l9 : (uI s3 o 8 (Int32.ofInt (bal B G 0))).1 o 9 = Int32.ofInt (ctn B G + 0) := l9
        have ec : ctn B G + 0 - 0 = ctn B G := by omega
        simp (disch := omega) only [f_X3_carryBack, f_X3_carryBack_j67, hcm, q1, q4, q7, hld, l8, eb, l9, ec, hP3, hcr, bI_f, u_3, g_kk, g_k1, g_n1, g_k2, g_n2, g_k3, g_n3, g_k4, g_n4, g_k5, g_n5, g_k7, g_n7, g_k8, g_n8, g_k9, g_n9, g_k6, g_r3, g_r4, g_r5, g_r6, g_r7, g_r10, g_q0, g_q1, g_q2, p_kk, p_k1, p_n1, p_k2, p_n2, p_k3, p_n3, p_k4, p_n4, p_k5, p_n5, p_k6, p_n6, p_k7, p_n7, p_k8, p_n8, p_k9, p_n9, p_k10, p_n10, p_k11, p_n11, p_k13, p_n13, p_k12, p_r2, p_r4, p_r5, p_r6, p_r7, p_r9, p_r10, p_r11, p_r13, p_r14, p_r15, p_r16, p_h0, n_i8, n_i16, n_0, n_31, n_add, n_sub, n_mul, n_neg, n_div, n_rem, n_le_t, n_le_f, n_lt_t, n_lt_f, n_eq_t, n_eq_f, n_cl, n_gd, n_gdt, n_nz, Int.reduceToNat, Int.reduceAdd, Int.reduceSub, Int.reduceMul, Int.reduceNeg, Int.reduceLT, Int.reduceLE, Int.reduceEq, Int.reduceDiv, Int.reduceMod, Nat.reduceAdd, Nat.reduceMul, ↓reduceIte, ltd, bnd]
    · unfold setP
      by_cases c0 : j = t
      · rw [if_pos c0, c0]
        rcases hplt with hplt | hplt
        · omega
        · rw [hplt.2.2.2.2.1, g3, g4]
      · rw [if_neg c0]
        by_cases c1 : j = m
        · rw [if_pos c1, c1]
        · simp only [if_neg c1]
          rw [mvG_pl x0, ht]
          simp only [if_neg c1, if_neg c0]
    · unfold setP
      by_cases c0 : r = 5 * y + x
      · rw [if_pos c0, c0, hmq]
      · rw [if_neg c0]
        by_cases c1 : r = pl G m
        · rw [if_pos c1, c1, hmfr]
        · simp only [if_neg c1, if_neg c0]
          rw [hmA r r0 r1]
          simp only [if_neg c0, if_neg c1]
    · unfold addH remH
      rw [mvG_occ hB hG hk r0 r1]
      by_cases c0 : u = sd B m
      · rw [if_neg (fun c => g5 (by omega)), if_pos c0, if_pos c0]
        by_cases c1 : r = pl G m
        · rw [decide_eq_true c1, Bool.or_true, c1, hof, decide_eq_true c0.symm]
        · rw [decide_eq_false c1, Bool.or_false, if_neg c1]
          by_cases c2 : r = 5 * y + x
          · rw [if_pos c2, decide_eq_true c2, Bool.not_true, Bool.and_false, c2, hocq, decide_eq_false (show ¬ sd B t = u by omega), Bool.and_false]
          · rw [if_neg c2, decide_eq_false c2, Bool.not_false, Bool.and_true]
      · rw [if_pos (by omega), if_neg c0, if_neg c0]
        by_cases c2 : r = 5 * y + x
        · rw [decide_eq_true c2, Bool.or_true, c2, hocq, decide_eq_true e, decide_eq_true (show sd B t = u by omega)]; rfl
        · rw [if_neg c2, decide_eq_false c2, Bool.or_false]
          by_cases c1 : r = pl G m
          · rw [if_pos c1, c1, hof, decide_eq_false (fun c => c0 c.symm)]
          · rw [if_neg c1]
