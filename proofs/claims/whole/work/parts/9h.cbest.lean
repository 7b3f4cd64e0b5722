/-! L3: the best move as the class finds it -/
def bm2 (r : Int × Int) (c v : Int) : Int × Int := if r.1 < 0 ∨ r.2 < v then (c, v) else r
def in2 (r : Int × Int) : Prop := -1 ≤ r.1 ∧ r.1 ≤ 1000 ∧ -1000 ≤ r.2 ∧ r.2 ≤ 1000
theorem GS_Fm {G : Gam} {o : Nat} {s s' : ST} (h : GS G o s) (hf : Fm o s s') : GS G o s' := (hf.1 o 2 (by omega) (by omega) (by omega) (by omega)).trans h
theorem c_best_L54 {B : Brd} {G : Gam} {o p : Nat} (ho : o = 36 ∨ o = 46) {d m : Int} (m0 : 0 ≤ m) (m1 : m ≤ 8) {g : Int → Bool} {v : Int → Int} (hv : ∀ q, -1000 ≤ v q ∧ v q ≤ 1000) (hrc : ∀ (q : Int) (s : ST), 0 ≤ q → q < 25 → g q = true → GA B G o p s → ∃ s', t_X3_outlookBehind o (Int32.ofInt m) (Int32.ofInt q) (Int32.ofInt d) s = some (Int32.ofInt (v q), s') ∧ GA B G o p s' ∧ Fm o s s') (K : Nat → Int32 → Int32 → Int32 → Int32 → ST → Option (Int32 × ST)) : ∀ (n F : Nat) (i : Int) (r : Int × Int) (s : ST), GA B G o p s → in2 r → 0 ≤ i → (n : Int) = 25 - i → n < F → ∃ s', GA B G o p s' ∧ Fm o s s' ∧ in2 (((upto n i).filter g).foldl (fun r q => bm2 r (25 * m + q) (v q)) r) ∧ f_X3_bestMove_L54 K F o (Int32.ofInt d) (Int32.ofInt r.1) (Int32.ofInt r.2) (Int32.ofInt m) (bmk g) (Int32.ofInt i) s = K o (Int32.ofInt d) (Int32.ofInt (((upto n i).filter g).foldl (fun r q => bm2 r (25 * m + q) (v q)) r).1) (Int32.ofInt (((upto n i).filter g).foldl (fun r q => bm2 r (25 * m + q) (v q)) r).2) (Int32.ofInt (m + 1)) s' := by
  intro n
  by_cases hz : bmk g = Int32.ofInt 0
  · intro F i r s hA hr h0 hn hF
    obtain ⟨F, rfl⟩ : ∃ F', F = F' + 1 := ⟨F - 1, by omega⟩
    have hg := bmk_0.mp hz
    have hnil : (upto n i).filter g = [] := List.filter_eq_nil_iff.mpr (fun q hq => by
      rw [mem_upto] at hq
      rw [hg q (by omega) (by omega)]; decide)
    rw [hnil]
    refine ⟨s, hA, Fm.rf o s, hr, ?_⟩
    simp (disch := omega) only [f_X3_bestMove_L54, hz, List.foldl_nil, n_i8, n_i16, n_0, n_31, n_add, n_sub, n_mul, n_neg, n_div, n_rem, n_le_t, n_le_f, n_lt_t, n_lt_f, n_eq_t, n_eq_f, n_cl, n_gd, n_gdt, n_nz, Int.reduceToNat, Int.reduceAdd, Int.reduceSub, Int.reduceMul, Int.reduceNeg, Int.reduceLT, Int.reduceLE, Int.reduceEq, Int.reduceDiv, Int.reduceMod, Nat.reduceAdd, Nat.reduceMul, ↓reduceIte]
  · induction n with
    | zero =>
      intro F i r s hA hr h0 hn hF
      obtain ⟨F, rfl⟩ : ∃ F', F = F' + 1 := ⟨F - 1, by omega⟩
      refine ⟨s, hA, Fm.rf o s, hr, ?_⟩
      simp (disch := omega) only [f_X3_bestMove_L54, if_neg hz, upto, List.filter_nil, List.foldl_nil, n_i8, n_i16, n_0, n_31, n_add, n_sub, n_mul, n_neg, n_div, n_rem, n_le_t, n_le_f, n_lt_t, n_lt_f, n_eq_t, n_eq_f, n_cl, n_gd, n_gdt, n_nz, Int.reduceToNat, Int.reduceAdd, Int.reduceSub, Int.reduceMul, Int.reduceNeg, Int.reduceLT, Int.reduceLE, Int.reduceEq, Int.reduceDiv, Int.reduceMod, Nat.reduceAdd, Nat.reduceMul, ↓reduceIte]
    | succ n ih =>
      intro F i r s hA hr h0 hn hF
      obtain ⟨F, rfl⟩ : ∃ F', F = F' + 1 := ⟨F - 1, by omega⟩
      have hb := bit_q g (q := i) h0 (by omega)
      simp only [upto]
      rw [List.filter_cons]
      cases e : g i with
      | false =>
        rw [e] at hb
        rw [if_neg (by decide)]
        obtain ⟨s', q1, q2, q3, q4⟩ := ih F (i + 1) r s hA hr (by omega) (by omega) (by omega)
        refine ⟨s', q1, q2, q3, ?_⟩
        rw [← q4]
        rw [f_X3_bestMove_L54]
        simp (disch := omega) only [if_neg hz, hb, bI_f, n_i8, n_i16, n_0, n_31, n_add, n_sub, n_mul, n_neg, n_div, n_rem, n_le_t, n_le_f, n_lt_t, n_lt_f, n_eq_t, n_eq_f, n_cl, n_gd, n_gdt, n_nz, Int.reduceToNat, Int.reduceAdd, Int.reduceSub, Int.reduceMul, Int.reduceNeg, Int.reduceLT, Int.reduceLE, Int.reduceEq, Int.reduceDiv, Int.reduceMod, Nat.reduceAdd, Nat.reduceMul, ↓reduceIte]
      | true =>
        rw [e] at hb
        rw [if_pos rfl, List.foldl_cons]
        obtain ⟨s1, w1, w2, w3⟩ := hrc i s h0 (by omega) e hA
        have hvi := hv i
        have hst : bm2 r (25 * m + i) (v i) = if r.1 < 0 ∨ r.2 < v i then (25 * m + i, v i) else r := rfl
        have hr' := hr
        unfold in2 at hr'
        generalize v i = z at *
        have hmm : m * 25 + i = 25 * m + i := by omega
        by_cases e1 : r.1 < 0 ∨ r.2 < z
        · rw [if_pos e1] at hst
          rw [hst]
          obtain ⟨s', q1, q2, q3, q4⟩ := ih F (i + 1) (25 * m + i, z) s1 w2 (by unfold in2; exact ⟨by show -1 ≤ 25 * m + i; omega, by show 25 * m + i ≤ 1000; omega, by show -1000 ≤ z; omega, by show z ≤ 1000; omega⟩) (by omega) (by omega) (by omega)
          refine ⟨s', q1, w3.tr q2, q3, ?_⟩
          rw [← q4]
          rw [f_X3_bestMove_L54]
          by_cases e2 : r.1 < 0
          · simp (disch := omega) only [f_X3_bestMove_j100, f_X9_moveOf, if_neg hz, hb, w1, hmm, bI_t, g_kk, g_k1, g_n1, g_k2, g_n2, g_k3, g_n3, g_k4, g_n4, g_k5, g_n5, g_k7, g_n7, g_k8, g_n8, g_k9, g_n9, g_k6, g_r3, g_r4, g_r5, g_r6, g_r7, g_r10, g_q0, g_q1, g_q2, p_kk, p_k1, p_n1, p_k2, p_n2, p_k3, p_n3, p_k4, p_n4, p_k5, p_n5, p_k6, p_n6, p_k7, p_n7, p_k8, p_n8, p_k9, p_n9, p_k10, p_n10, p_k11, p_n11, p_k13, p_n13, p_k12, p_r2, p_r4, p_r5, p_r6, p_r7, p_r9, p_r10, p_r11, p_r13, p_r14, p_r15, p_r16, p_h0, n_i8, n_i16, n_0, n_31, n_add, n_sub, n_mul, n_neg, n_div, n_rem, n_le_t, n_le_f, n_lt_t, n_lt_f, n_eq_t, n_eq_f, n_cl, n_gd, n_gdt, n_nz, Int.reduceToNat, Int.reduceAdd, Int.reduceSub, Int.reduceMul, Int.reduceNeg, Int.reduceLT, Int.reduceLE, Int.reduceEq, Int.reduceDiv, Int.reduceMod, Nat.reduceAdd, Nat.reduceMul, ↓reduceIte, u_eq, u_no, u_nk, u_ek, u_2, u_3, j_1, j_3, j_eq, j_no, j_nk, ltd, bnd]
          · simp (disch := omega) only [f_X3_bestMove_j100, f_X9_moveOf, if_neg hz, hb, w1, hmm, bI_t, g_kk, g_k1, g_n1, g_k2, g_n2, g_k3, g_n3, g_k4, g_n4, g_k5, g_n5, g_k7, g_n7, g_k8, g_n8, g_k9, g_n9, g_k6, g_r3, g_r4, g_r5, g_r6, g_r7, g_r10, g_q0, g_q1, g_q2, p_kk, p_k1, p_n1, p_k2, p_n2, p_k3, p_n3, p_k4, p_n4, p_k5, p_n5, p_k6, p_n6, p_k7, p_n7, p_k8, p_n8, p_k9, p_n9, p_k10, p_n10, p_k11, p_n11, p_k13, p_n13, p_k12, p_r2, p_r4, p_r5, p_r6, p_r7, p_r9, p_r10, p_r11, p_r13, p_r14, p_r15, p_r16, p_h0, n_i8, n_i16, n_0, n_31, n_add, n_sub, n_mul, n_neg, n_div, n_rem, n_le_t, n_le_f, n_lt_t, n_lt_f, n_eq_t, n_eq_f, n_cl, n_gd, n_gdt, n_nz, Int.reduceToNat, Int.reduceAdd, Int.reduceSub, Int.reduceMul, Int.reduceNeg, Int.reduceLT, Int.reduceLE, Int.reduceEq, Int.reduceDiv, Int.reduceMod, Nat.reduceAdd, Nat.reduceMul, ↓reduceIte, u_eq, u_no, u_nk, u_ek, u_2, u_3, j_1, j_3, j_eq, j_no, j_nk, ltd, bnd]
        · rw [if_neg e1] at hst
          rw [hst]
          obtain ⟨s', q1, q2, q3, q4⟩ := ih F (i + 1) r s1 w2 hr (by omega) (by omega) (by omega)
          refine ⟨s', q1, w3.tr q2, q3, ?_⟩
          rw [← q4]
          rw [f_X3_bestMove_L54]
          simp (disch := omega) only [f_X3_bestMove_j100, f_X9_moveOf, if_neg hz, hb, w1, hmm, bI_t, g_kk, g_k1, g_n1, g_k2, g_n2, g_k3, g_n3, g_k4, g_n4, g_k5, g_n5, g_k7, g_n7, g_k8, g_n8, g_k9, g_n9, g_k6, g_r3, g_r4, g_r5, g_r6, g_r7, g_r10, g_q0, g_q1, g_q2, p_kk, p_k1, p_n1, p_k2, p_n2, p_k3, p_n3, p_k4, p_n4, p_k5, p_n5, p_k6, p_n6, p_k7, p_n7, p_k8, p_n8, p_k9, p_n9, p_k10, p_n10, p_k11, p_n11, p_k13, p_n13, p_k12, p_r2, p_r4, p_r5, p_r6, p_r7, p_r9, p_r10, p_r11, p_r13, p_r14, p_r15, p_r16, p_h0, n_i8, n_i16, n_0, n_31, n_add, n_sub, n_mul, n_neg, n_div, n_rem, n_le_t, n_le_f, n_lt_t, n_lt_f, n_eq_t, n_eq_f, n_cl, n_gd, n_gdt, n_nz, Int.reduceToNat, Int.reduceAdd, Int.reduceSub, Int.reduceMul, Int.reduceNeg, Int.reduceLT, Int.reduceLE, Int.reduceEq, Int.reduceDiv, Int.reduceMod, Nat.reduceAdd, Nat.reduceMul, ↓reduceIte, u_eq, u_no, u_nk, u_ek, u_2, u_3, j_1, j_3, j_eq, j_no, j_nk, ltd, bnd]
theorem c_best_L7 {B : Brd} {G : Gam} {o p : Nat} {d : Int} {V : Int → Int → Int} (hc : ct B G = false) (hv : ∀ m q, -1000 ≤ V m q ∧ V m q ≤ 1000) (hrc : ∀ (m q : Int) (s : ST), 0 ≤ m → m < bM B → 0 ≤ q → q < 25 → outB B G (gs G) m = true → gQ B G m q = true → GA B G o p s → ∃ s', t_X3_outlookBehind o (Int32.ofInt m) (Int32.ofInt q) (Int32.ofInt d) s = some (Int32.ofInt (V m q), s') ∧ GA B G o p s' ∧ Fm o s s') : ∀ (n F : Nat) (i : Int) (r : Int × Int) (s : ST), GA B G o p s → GS G o s → in2 r → 0 ≤ i → (n : Int) = bM B - i → n < F → ∃ s', GA B G o p s' ∧ Fm o s s' ∧ f_X3_bestMove_L7 F o (Int32.ofInt d) (Int32.ofInt r.1) (Int32.ofInt r.2) (Int32.ofInt i) s = some (Int32.ofInt ((cml B G (upto n i)).foldl (fun r x => bm2 r (25 * x.1 + x.2) (V x.1 x.2)) r).1, s') := by
  intro n
  induction n with
  | zero =>
    intro F i r s hA hS hr h0 hn hF
    obtain ⟨F, rfl⟩ : ∃ F', F = F' + 1 := ⟨F - 1, by omega⟩
    have hA' := hA
    obtain ⟨⟨hB, hG⟩, ⟨ho, hp⟩, hP, hPB, -, -, -, -, h9⟩ := hA'
    rw [(ct_ctn G).2.mpr hc] at h9
    have c8 : s.1 p 8 = Int32.ofInt (bM B) := hPB.1.2.2.2.1
    have hM : bM B ≤ 8 := hB.1.1.2.2.2.2.2.2.2.1
    refine ⟨s, hA, Fm.rf o s, ?_⟩
    simp (disch := omega) only [f_X3_bestMove_L7, hP, c8, h9, upto, cml, List.flatMap_nil, List.foldl_nil, g_kk, g_k1, g_n1, g_k2, g_n2, g_k3, g_n3, g_k4, g_n4, g_k5, g_n5, g_k7, g_n7, g_k8, g_n8, g_k9, g_n9, g_k6, g_r3, g_r4, g_r5, g_r6, g_r7, g_r10, g_q0, g_q1, g_q2, p_kk, p_k1, p_n1, p_k2, p_n2, p_k3, p_n3, p_k4, p_n4, p_k5, p_n5, p_k6, p_n6, p_k7, p_n7, p_k8, p_n8, p_k9, p_n9, p_k10, p_n10, p_k11, p_n11, p_k13, p_n13, p_k12, p_r2, p_r4, p_r5, p_r6, p_r7, p_r9, p_r10, p_r11, p_r13, p_r14, p_r15, p_r16, p_h0, n_i8, n_i16, n_0, n_31, n_add, n_sub, n_mul, n_neg, n_div, n_rem, n_le_t, n_le_f, n_lt_t, n_lt_f, n_eq_t, n_eq_f, n_cl, n_gd, n_gdt, n_nz, Int.reduceToNat, Int.reduceAdd, Int.reduceSub, Int.reduceMul, Int.reduceNeg, Int.reduceLT, Int.reduceLE, Int.reduceEq, Int.reduceDiv, Int.reduceMod, Nat.reduceAdd, Nat.reduceMul, ↓reduceIte, u_eq, u_no, u_nk, u_ek, u_2, u_3, j_1, j_3, j_eq, j_no, j_nk, ltd, bnd]
  | succ n ih =>
    intro F i r s hA hS hr h0 hn hF
    obtain ⟨F, rfl⟩ : ∃ F', F = F' + 1 := ⟨F - 1, by omega⟩
    have hA' := hA
    obtain ⟨⟨hB, hG⟩, ⟨ho, hp⟩, hP, hPB, -, -, -, -, h9⟩ := hA'
    rw [(ct_ctn G).2.mpr hc] at h9
    have c8 : s.1 p 8 = Int32.ofInt (bM B) := hPB.1.2.2.2.1
    have hM : bM B ≤ 8 := hB.1.1.2.2.2.2.2.2.2.1
    have hgs := hG.1.2.2
    have hS' : s.1 o 2 = Int32.ofInt (gs G) := hS
    have hi := c_isOut hA h0 (show i < bM B by omega) hgs.1 hgs.2
    have hg := c_goals hA h0 (show i < bM B by omega)
    have hcm : cml B G (upto (n + 1) i) = cm1 B G i ++ cml B G (upto n (i + 1)) := by
      show (i :: upto n (i + 1)).flatMap (cm1 B G) = _
      rw [List.flatMap_cons]
      rfl
    rw [hcm, List.foldl_append]
    cases e : outB B G (gs G) i with
    | false =>
      rw [e] at hi
      have hnil : cm1 B G i = [] := by unfold cm1; rw [if_neg (by rw [e]; decide)]
      rw [hnil, List.foldl_nil]
      obtain ⟨s1, w1, w2, w3, w4⟩ := c_best_L54 ho (d := d) (m := i) h0 (by omega) (g := fun _ => false) (v := fun _ => 0) (fun _ => by omega) (fun q s _ _ h => by cases h) (f_X3_bestMove_L7 F) 25 fuel 0 r s hA hr (by omega) (by omega) (by unfold fuel; omega)
      have hnil2 : (upto 25 0).filter (fun _ : Int => false) = [] := List.filter_eq_nil_iff.mpr (fun _ _ => by decide)
      rw [hnil2, List.foldl_nil, bmk_no] at w4
      obtain ⟨s2, q1, q2, q4⟩ := ih F (i + 1) r s1 w1 (GS_Fm hS w2) hr (by omega) (by omega) (by omega)
      refine ⟨s2, q1, w2.tr q2, ?_⟩
      refine Eq.trans ?_ (w4.trans q4)
      rw [f_X3_bestMove_L7]
      simp (disch := omega) only [f_X3_bestMove_j49, hP, c8, h9, hS', hi, bI_f, g_kk, g_k1, g_n1, g_k2, g_n2, g_k3, g_n3, g_k4, g_n4, g_k5, g_n5, g_k7, g_n7, g_k8, g_n8, g_k9, g_n9, g_k6, g_r3, g_r4, g_r5, g_r6, g_r7, g_r10, g_q0, g_q1, g_q2, p_kk, p_k1, p_n1, p_k2, p_n2, p_k3, p_n3, p_k4, p_n4, p_k5, p_n5, p_k6, p_n6, p_k7, p_n7, p_k8, p_n8, p_k9, p_n9, p_k10, p_n10, p_k11, p_n11, p_k13, p_n13, p_k12, p_r2, p_r4, p_r5, p_r6, p_r7, p_r9, p_r10, p_r11, p_r13, p_r14, p_r15, p_r16, p_h0, n_i8, n_i16, n_0, n_31, n_add, n_sub, n_mul, n_neg, n_div, n_rem, n_le_t, n_le_f, n_lt_t, n_lt_f, n_eq_t, n_eq_f, n_cl, n_gd, n_gdt, n_nz, Int.reduceToNat, Int.reduceAdd, Int.reduceSub, Int.reduceMul, Int.reduceNeg, Int.reduceLT, Int.reduceLE, Int.reduceEq, Int.reduceDiv, Int.reduceMod, Nat.reduceAdd, Nat.reduceMul, ↓reduceIte, u_eq, u_no, u_nk, u_ek, u_2, u_3, j_1, j_3, j_eq, j_no, j_nk, ltd, bnd]
    | true =>
      rw [e] at hi
      have hcm1 : cm1 B G i = (pls.filter (gQ B G i)).map (fun q => (i, q)) := by unfold cm1; rw [if_pos e]
      rw [hcm1, List.foldl_map]
      obtain ⟨s1, w1, w2, w3, w4⟩ := c_best_L54 ho (d := d) (m := i) h0 (by omega) (g := gQ B G i) (v := V i) (hv i) (fun q s q0 q1 hgq hGA => hrc i q s h0 (by omega) q0 q1 e hgq hGA) (f_X3_bestMove_L7 F) 25 fuel 0 r s hA hr (by omega) (by omega) (by unfold fuel; omega)
      obtain ⟨s2, q1, q2, q4⟩ := ih F (i + 1) _ s1 w1 (GS_Fm hS w2) w3 (by omega) (by omega) (by omega)
      refine ⟨s2, q1, w2.tr q2, ?_⟩
      refine Eq.trans ?_ (w4.trans q4)
      rw [f_X3_bestMove_L7]
      simp (disch := omega) only [f_X3_bestMove_j49, hP, c8, h9, hS', hi, hg, bI_t, g_kk, g_k1, g_n1, g_k2, g_n2, g_k3, g_n3, g_k4, g_n4, g_k5, g_n5, g_k7, g_n7, g_k8, g_n8, g_k9, g_n9, g_k6, g_r3, g_r4, g_r5, g_r6, g_r7, g_r10, g_q0, g_q1, g_q2, p_kk, p_k1, p_n1, p_k2, p_n2, p_k3, p_n3, p_k4, p_n4, p_k5, p_n5, p_k6, p_n6, p_k7, p_n7, p_k8, p_n8, p_k9, p_n9, p_k10, p_n10, p_k11, p_n11, p_k13, p_n13, p_k12, p_r2, p_r4, p_r5, p_r6, p_r7, p_r9, p_r10, p_r11, p_r13, p_r14, p_r15, p_r16, p_h0, n_i8, n_i16, n_0, n_31, n_add, n_sub, n_mul, n_neg, n_div, n_rem, n_le_t, n_le_f, n_lt_t, n_lt_f, n_eq_t, n_eq_f, n_cl, n_gd, n_gdt, n_nz, Int.reduceToNat, Int.reduceAdd, Int.reduceSub, Int.reduceMul, Int.reduceNeg, Int.reduceLT, Int.reduceLE, Int.reduceEq, Int.reduceDiv, Int.reduceMod, Nat.reduceAdd, Nat.reduceMul, ↓reduceIte, u_eq, u_no, u_nk, u_ek, u_2, u_3, j_1, j_3, j_eq, j_no, j_nk, ltd, bnd]
theorem cfold (B : Brd) (f : Gam → Int) (G : Gam) (A0 : CA) : (mens B).foldl (cK B f G) A0 = (mvl B G).foldl (fun A x => cput A (-(f (mvK B G x.1 x.2))) x.1 x.2) A0 := by
  refine Eq.trans ?_ (fold_mvl B G (fun A m k => cput A (-(f (mvK B G m k))) m k) (mens B) A0)
  congr 1
  funext p m
  unfold cK
  congr 1
  funext p k
  unfold cstep cond
  by_cases c : sd B m = gs G ∧ goK B G m k = true
  · rw [if_pos c, if_pos (by rw [decide_eq_true c.1, c.2]; rfl)]
  · rw [if_neg c, if_neg (fun d => c (by rw [Bool.and_eq_true] at d; exact ⟨of_decide_eq_true d.1, d.2⟩))]
theorem c_fold2 {B : Brd} (hB : Bv B) (v : Int → Int → Int) : ∀ (l : List (Int × Int)) (A : CA), (∀ x ∈ l, 0 ≤ x.1 ∧ 0 ≤ x.2 ∧ x.2 < bW B * bH B) → 0 ≤ A.2.2.1 → (A.1 = -1 ∨ 0 ≤ mvC B A) → (l.foldl (fun r x => bm2 r (25 * x.1 + p5 B x.2) (v x.1 x.2)) (mvC B A, A.2.1)).1 = mvC B (l.foldl (fun A x => cput A (v x.1 x.2) x.1 x.2) A)
  | [], A, _, _, _ => rfl
  | x :: l, A, hl, hA, hm => by
    rw [List.foldl_cons, List.foldl_cons]
    have hx := hl x List.mem_cons_self
    have hp := p5_x hB hx.2.1 hx.2.2
    have hcond : (mvC B A < 0 ∨ A.2.1 < v x.1 x.2) ↔ (A.1 = -1 ∨ A.2.1 < v x.1 x.2) := by
      constructor
      · intro h
        rcases h with h | h
        · left
          rcases hm with e | e
          · exact e
          · omega
        · exact Or.inr h
      · intro h
        rcases h with h | h
        · left; unfold mvC; rw [if_pos h]; omega
        · exact Or.inr h
    have hstep : bm2 (mvC B A, A.2.1) (25 * x.1 + p5 B x.2) (v x.1 x.2) = (mvC B (cput A (v x.1 x.2) x.1 x.2), (cput A (v x.1 x.2) x.1 x.2).2.1) ∧ 0 ≤ (cput A (v x.1 x.2) x.1 x.2).2.2.1 ∧ ((cput A (v x.1 x.2) x.1 x.2).1 = -1 ∨ 0 ≤ mvC B (cput A (v x.1 x.2) x.1 x.2)) := by
      unfold bm2 cput
      by_cases e : A.1 = -1 ∨ A.2.1 < v x.1 x.2
      · rw [if_pos (hcond.mpr e), if_pos e]
        have h1 : ¬ A.2.2.1 = -1 := by omega
        have h2 : mvC B (A.2.2.1, v x.1 x.2, A.2.2.1 + 1, x.1, x.2) = 25 * x.1 + p5 B x.2 := by
          show (if A.2.2.1 = -1 then -1 else 25 * x.1 + p5 B x.2) = _
          rw [if_neg h1]
        exact ⟨by rw [h2], by show 0 ≤ A.2.2.1 + 1; omega, Or.inr (by rw [h2]; omega)⟩
      · rw [if_neg (fun c => e (hcond.mp c)), if_neg e]
        exact ⟨rfl, by show 0 ≤ A.2.2.1 + 1; omega, hm⟩
    rw [hstep.1]
    exact c_fold2 hB v l _ (fun y hy => hl y (List.mem_cons_of_mem _ hy)) hstep.2.1 hstep.2.2
theorem c_best {B : Brd} {G : Gam} {o p : Nat} {s : ST} (hA : GA B G o p s) (hS : GS G o s) {d : Int} (d1 : 1 ≤ d) (d3 : d ≤ 3) : ∃ s', f_X3_bestMove o (Int32.ofInt d) s = some (Int32.ofInt (mvC B (bestA B d G)), s') ∧ GA B G o p s' ∧ Fm o s s' := by
  have hA' := hA
  obtain ⟨⟨hB, hG⟩, ⟨ho, hp⟩, hP, hPB, -, -, -, -, h9⟩ := hA'
  have hM0 : 0 ≤ bM B := hB.1.1.2.2.2.2.2.2.1
  have hM : bM B ≤ 8 := hB.1.1.2.2.2.2.2.2.2.1
  have hcb := ctn_b hB G
  have hz := ct_ctn (B := B) G
  unfold bestA cb
  cases hc : ct B G with
  | true =>
    have hne : ¬ ctn B G = 0 := fun c => by have := hz.2.mp c; rw [hc] at this; cases this
    rw [if_pos rfl]
    refine ⟨s, ?_, hA, Fm.rf o s⟩
    have : ∀ F : Nat, f_X3_bestMove_L7 (F + 1) o (Int32.ofInt d) (Int32.ofInt (-1)) (Int32.ofInt 0) (Int32.ofInt 0) s = some (Int32.ofInt (-1), s) := fun F => by
      simp (disch := omega) only [f_X3_bestMove_L7, h9, g_kk, g_k1, g_n1, g_k2, g_n2, g_k3, g_n3, g_k4, g_n4, g_k5, g_n5, g_k7, g_n7, g_k8, g_n8, g_k9, g_n9, g_k6, g_r3, g_r4, g_r5, g_r6, g_r7, g_r10, g_q0, g_q1, g_q2, p_kk, p_k1, p_n1, p_k2, p_n2, p_k3, p_n3, p_k4, p_n4, p_k5, p_n5, p_k6, p_n6, p_k7, p_n7, p_k8, p_n8, p_k9, p_n9, p_k10, p_n10, p_k11, p_n11, p_k13, p_n13, p_k12, p_r2, p_r4, p_r5, p_r6, p_r7, p_r9, p_r10, p_r11, p_r13, p_r14, p_r15, p_r16, p_h0, n_i8, n_i16, n_0, n_31, n_add, n_sub, n_mul, n_neg, n_div, n_rem, n_le_t, n_le_f, n_lt_t, n_lt_f, n_eq_t, n_eq_f, n_cl, n_gd, n_gdt, n_nz, Int.reduceToNat, Int.reduceAdd, Int.reduceSub, Int.reduceMul, Int.reduceNeg, Int.reduceLT, Int.reduceLE, Int.reduceEq, Int.reduceDiv, Int.reduceMod, Nat.reduceAdd, Nat.reduceMul, ↓reduceIte, u_eq, u_no, u_nk, u_ek, u_2, u_3, j_1, j_3, j_eq, j_no, j_nk, ltd, bnd]
    exact this 99999
  | false =>
    rw [if_neg (by decide), cfold]
    have hvb := val_b hB (d - 1).toNat
    obtain ⟨s1, w1, w2, w3⟩ := c_best_L7 (B := B) (G := G) (o := o) (p := p) (d := d) (V := fun m q => -(val B (d - 1).toNat (mvG B G m (q % 5) (q / 5)))) hc (fun m q => by have := hvb (mvG B G m (q % 5) (q / 5)); show -1000 ≤ -(val B _ _) ∧ -(val B _ _) ≤ 1000; omega) (fun m q s m0 m1 q0 q1 ho1 hgq hGA => by
      refine c_behind hGA (d := d) d1 (by omega) (f := val B (d - 1).toNat) (fun G' s' hGA' => ?_) m0 m1 q0 q1 (outB_sd ho1) hgq
      have := c_outlook 6 (d - 1).toNat G' s' (by omega) (by omega) hGA'
      rw [show (((d - 1).toNat : Nat) : Int) = d - 1 by omega] at this
      exact this) (bM B).toNat fuel 0 (-1, 0) s hA hS (by unfold in2; decide) (by omega) (by omega) (by unfold fuel; omega)
    have w3 : f_X3_bestMove o (Int32.ofInt d) s = some (Int32.ofInt ((cml B G (mens B)).foldl (fun r x => bm2 r (25 * x.1 + x.2) (-(val B (d - 1).toNat (mvG B G x.1 (x.2 % 5) (x.2 / 5))))) (-1, 0)).1, s1) := w3
    have hf := cml_fold hB (G := G) (fun (r : Int × Int) m q => bm2 r (25 * m + q) (-(val B (d - 1).toNat (mvG B G m (q % 5) (q / 5))))) (fun r m k => bm2 r (25 * m + p5 B k) (-(val B (d - 1).toNat (mvK B G m k)))) (fun r m k _ _ k0 k1 _ _ => by rw [mvG_p5 hB k0 k1]) (-1, 0)
    rw [hf] at w3
    have h2 := c_fold2 hB (fun m k => -(val B (d - 1).toNat (mvK B G m k))) (mvl B G) (-1, 0, 0, 0, 0) (fun x hx => by have := mvl_mem hM0 hx; exact ⟨this.1, this.2.2.1, this.2.2.2.1⟩) (by decide) (Or.inl rfl)
    have h2 : ((mvl B G).foldl (fun r x => bm2 r (25 * x.1 + p5 B x.2) (-(val B (d - 1).toNat (mvK B G x.1 x.2)))) (-1, 0)).1 = mvC B ((mvl B G).foldl (fun A x => cput A (-(val B (d - 1).toNat (mvK B G x.1 x.2))) x.1 x.2) (-1, 0, 0, 0, 0)) := h2
    rw [h2] at w3
    exact ⟨s1, w3, w1, w2⟩
