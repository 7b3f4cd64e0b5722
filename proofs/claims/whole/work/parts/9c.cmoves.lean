/-! L3: the class's moves in their order -/
theorem gQ_tk {B : Brd} {G : Gam} {m : Int} (h : gx G m = -1) (q : Int) : gQ B G m q = false := by
  unfold gQ go
  rw [if_pos h, Bool.and_false]
theorem nMov_tk {B : Brd} (hB : Bv B) {G : Gam} {m : Int} (h : gx G m = -1) : nMov B G m = 0 := by
  rw [← gQ_cnt hB]
  unfold cnF
  have : pls.filter (gQ B G m) = [] := List.filter_eq_nil_iff.mpr (fun q _ => by rw [gQ_tk h]; decide)
  rw [this]
  rfl
/-- the side that the class's game has to move -/
def GS (G : Gam) (o : Nat) (s : ST) : Prop := s.1 o 2 = Int32.ofInt (gs G)
theorem mvN1_out {B : Brd} (hB : Bv B) {G : Gam} (m : Int) : mvN1 B G m = if outB B G (gs G) m = true then cnF (gQ B G m) else 0 := by
  unfold mvN1 outB tk
  rw [gQ_cnt hB]
  by_cases e1 : sd B m = gs G
  · rw [if_pos e1, decide_eq_true e1, Bool.true_and]
    by_cases e2 : gx G m = -1
    · rw [decide_eq_true e2, if_neg (by decide)]; exact nMov_tk hB e2
    · rw [decide_eq_false e2, Bool.not_false, if_pos rfl]
  · rw [if_neg e1, decide_eq_false e1, Bool.false_and, if_neg (by decide)]
theorem c_moveCount_L {B : Brd} {G : Gam} {o p : Nat} {s : ST} (h : GA B G o p s) (hs : GS G o s) (hc : ct B G = false) : ∀ (n F : Nat) (i a : Int), 0 ≤ i → (n : Int) = bM B - i → n < F → f_X3_moveCount_L4 F o (Int32.ofInt a) (Int32.ofInt i) s = some (Int32.ofInt (a + smL (mvN1 B G) (upto n i)), s) := by
  have h0 := h
  obtain ⟨⟨hB, hG⟩, ⟨ho, hp⟩, hP, ⟨hn, -⟩, -, -, -, -, h9⟩ := h0
  have hM : bM B ≤ 8 := hB.1.1.2.2.2.2.2.2.2.1
  have c8 : s.1 p 8 = Int32.ofInt (bM B) := hn.2.2.2.1
  have hgs := hG.1.2.2
  rw [(ct_ctn G).2.mpr hc] at h9
  unfold GS at hs
  intro n
  induction n with
  | zero =>
    intro F i a h0 hn hF
    obtain ⟨F, rfl⟩ : ∃ F', F = F' + 1 := ⟨F - 1, by omega⟩
    simp (disch := omega) only [f_X3_moveCount_L4, hP, c8, h9, upto, smL, Int.add_zero, g_kk, g_k1, g_n1, g_k2, g_n2, g_k3, g_n3, g_k4, g_n4, g_k5, g_n5, g_k7, g_n7, g_k8, g_n8, g_k9, g_n9, g_k6, g_r3, g_r4, g_r5, g_r6, g_r7, g_r10, g_q0, g_q1, g_q2, p_kk, p_k1, p_n1, p_k2, p_n2, p_k3, p_n3, p_k4, p_n4, p_k5, p_n5, p_k6, p_n6, p_k7, p_n7, p_k8, p_n8, p_k9, p_n9, p_k10, p_n10, p_k11, p_n11, p_k13, p_n13, p_k12, p_r2, p_r4, p_r5, p_r6, p_r7, p_r9, p_r10, p_r11, p_r13, p_r14, p_r15, p_r16, p_h0, n_i8, n_i16, n_0, n_31, n_add, n_sub, n_mul, n_neg, n_div, n_rem, n_le_t, n_le_f, n_lt_t, n_lt_f, n_eq_t, n_eq_f, n_cl, n_gd, n_gdt, n_nz, Int.reduceToNat, Int.reduceAdd, Int.reduceSub, Int.reduceMul, Int.reduceNeg, Int.reduceLT, Int.reduceLE, Int.reduceEq, Int.reduceDiv, Int.reduceMod, Nat.reduceAdd, Nat.reduceMul, ↓reduceIte, u_eq, u_no, u_nk, u_ek, u_2, u_3, j_1, j_3, j_eq, j_no, j_nk, ltd, bnd]
  | succ n ih =>
    intro F i a h0 hn hF
    obtain ⟨F, rfl⟩ : ∃ F', F = F' + 1 := ⟨F - 1, by omega⟩
    have hi := c_isOut h h0 (show i < bM B by omega) hgs.1 hgs.2
    have hg := c_goals h h0 (show i < bM B by omega)
    have hcn := c_cnt (gQ B G i) s
    simp only [upto, smL]
    rw [mvN1_out hB]
    cases e : outB B G (gs G) i with
    | true =>
      rw [e] at hi
      rw [if_pos rfl, ← Int.add_assoc, ← ih F (i + 1) (a + cnF (gQ B G i)) (by omega) (by omega) (by omega)]
      rw [f_X3_moveCount_L4]
      simp (disch := omega) only [hP, c8, h9, hs, hi, hg, hcn, bI_t, g_kk, g_k1, g_n1, g_k2, g_n2, g_k3, g_n3, g_k4, g_n4, g_k5, g_n5, g_k7, g_n7, g_k8, g_n8, g_k9, g_n9, g_k6, g_r3, g_r4, g_r5, g_r6, g_r7, g_r10, g_q0, g_q1, g_q2, p_kk, p_k1, p_n1, p_k2, p_n2, p_k3, p_n3, p_k4, p_n4, p_k5, p_n5, p_k6, p_n6, p_k7, p_n7, p_k8, p_n8, p_k9, p_n9, p_k10, p_n10, p_k11, p_n11, p_k13, p_n13, p_k12, p_r2, p_r4, p_r5, p_r6, p_r7, p_r9, p_r10, p_r11, p_r13, p_r14, p_r15, p_r16, p_h0, n_i8, n_i16, n_0, n_31, n_add, n_sub, n_mul, n_neg, n_div, n_rem, n_le_t, n_le_f, n_lt_t, n_lt_f, n_eq_t, n_eq_f, n_cl, n_gd, n_gdt, n_nz, Int.reduceToNat, Int.reduceAdd, Int.reduceSub, Int.reduceMul, Int.reduceNeg, Int.reduceLT, Int.reduceLE, Int.reduceEq, Int.reduceDiv, Int.reduceMod, Nat.reduceAdd, Nat.reduceMul, ↓reduceIte, u_eq, u_no, u_nk, u_ek, u_2, u_3, j_1, j_3, j_eq, j_no, j_nk, ltd, bnd]
    | false =>
      rw [e] at hi
      rw [if_neg (by decide), Int.zero_add, ← ih F (i + 1) a (by omega) (by omega) (by omega)]
      rw [f_X3_moveCount_L4]
      simp (disch := omega) only [hP, c8, h9, hs, hi, bI_f, g_kk, g_k1, g_n1, g_k2, g_n2, g_k3, g_n3, g_k4, g_n4, g_k5, g_n5, g_k7, g_n7, g_k8, g_n8, g_k9, g_n9, g_k6, g_r3, g_r4, g_r5, g_r6, g_r7, g_r10, g_q0, g_q1, g_q2, p_kk, p_k1, p_n1, p_k2, p_n2, p_k3, p_n3, p_k4, p_n4, p_k5, p_n5, p_k6, p_n6, p_k7, p_n7, p_k8, p_n8, p_k9, p_n9, p_k10, p_n10, p_k11, p_n11, p_k13, p_n13, p_k12, p_r2, p_r4, p_r5, p_r6, p_r7, p_r9, p_r10, p_r11, p_r13, p_r14, p_r15, p_r16, p_h0, n_i8, n_i16, n_0, n_31, n_add, n_sub, n_mul, n_neg, n_div, n_rem, n_le_t, n_le_f, n_lt_t, n_lt_f, n_eq_t, n_eq_f, n_cl, n_gd, n_gdt, n_nz, Int.reduceToNat, Int.reduceAdd, Int.reduceSub, Int.reduceMul, Int.reduceNeg, Int.reduceLT, Int.reduceLE, Int.reduceEq, Int.reduceDiv, Int.reduceMod, Nat.reduceAdd, Nat.reduceMul, ↓reduceIte, u_eq, u_no, u_nk, u_ek, u_2, u_3, j_1, j_3, j_eq, j_no, j_nk, ltd, bnd]
theorem c_moveCount {B : Brd} {G : Gam} {o p : Nat} {s : ST} (h : GA B G o p s) (hs : GS G o s) : f_X3_moveCount o s = some (Int32.ofInt (mvN B G), s) := by
  have hM0 : 0 ≤ bM B := h.1.1.1.1.2.2.2.2.2.2.1
  have hM : bM B ≤ 8 := h.1.1.1.1.2.2.2.2.2.2.2.1
  cases hc : ct B G with
  | false =>
    have := c_moveCount_L h hs hc (bM B).toNat fuel 0 0 (by omega) (by omega) (by unfold fuel; omega)
    rw [Int.zero_add] at this
    unfold mvN
    rw [hc, if_neg (by decide)]
    exact this
  | true =>
    obtain ⟨⟨hB, hG⟩, ⟨ho, hp⟩, hP, -, -, -, -, -, h9⟩ := h
    have hz := ct_ctn (B := B) G
    have hb := ctn_b hB G
    have hne : ¬ ctn B G = 0 := fun c => by have := hz.2.mp c; rw [hc] at this; cases this
    unfold mvN
    rw [hc, if_pos rfl]
    have : ∀ F : Nat, f_X3_moveCount_L4 (F + 1) o (Int32.ofInt 0) (Int32.ofInt 0) s = some (Int32.ofInt 0, s) := fun F => by
      simp (disch := omega) only [f_X3_moveCount_L4, h9, g_kk, g_k1, g_n1, g_k2, g_n2, g_k3, g_n3, g_k4, g_n4, g_k5, g_n5, g_k7, g_n7, g_k8, g_n8, g_k9, g_n9, g_k6, g_r3, g_r4, g_r5, g_r6, g_r7, g_r10, g_q0, g_q1, g_q2, p_kk, p_k1, p_n1, p_k2, p_n2, p_k3, p_n3, p_k4, p_n4, p_k5, p_n5, p_k6, p_n6, p_k7, p_n7, p_k8, p_n8, p_k9, p_n9, p_k10, p_n10, p_k11, p_n11, p_k13, p_n13, p_k12, p_r2, p_r4, p_r5, p_r6, p_r7, p_r9, p_r10, p_r11, p_r13, p_r14, p_r15, p_r16, p_h0, n_i8, n_i16, n_0, n_31, n_add, n_sub, n_mul, n_neg, n_div, n_rem, n_le_t, n_le_f, n_lt_t, n_lt_f, n_eq_t, n_eq_f, n_cl, n_gd, n_gdt, n_nz, Int.reduceToNat, Int.reduceAdd, Int.reduceSub, Int.reduceMul, Int.reduceNeg, Int.reduceLT, Int.reduceLE, Int.reduceEq, Int.reduceDiv, Int.reduceMod, Nat.reduceAdd, Nat.reduceMul, ↓reduceIte, u_eq, u_no, u_nk, u_ek, u_2, u_3, j_1, j_3, j_eq, j_no, j_nk, ltd, bnd]
    exact this 99999
theorem mvN_ovr {B : Brd} (hB : Bv B) {G : Gam} : (mvN B G = 0) ↔ ovr B G = true := by
  have hM0 : 0 ≤ bM B := hB.1.1.2.2.2.2.2.2.1
  constructor
  · intro h
    cases e : ovr B G with
    | true => rfl
    | false => have := mvN_pos e; omega
  · intro h
    unfold ovr at h
    unfold mvN
    cases hc : ct B G with
    | true => rw [if_pos rfl]
    | false =>
      rw [if_neg (by decide)]
      rw [hc, Bool.false_or] at h
      have hm : hasMv B G = false := by cases e : hasMv B G with
        | true => rw [e] at h; cases h
        | false => rfl
      unfold hasMv at hm
      have key : ∀ l : List Int, l.any (fun m => decide (sd B m = gs G) && decide (0 < nMov B G m)) = false → smL (mvN1 B G) l = 0 := by
        intro l
        induction l with
        | nil => intro _; rfl
        | cons m l ih =>
          intro hl
          rw [List.any_cons, Bool.or_eq_false_iff] at hl
          simp only [smL]
          rw [ih hl.2]
          have : mvN1 B G m = 0 := by
            unfold mvN1
            split
            · rename_i e
              rw [decide_eq_true e, Bool.true_and] at hl
              have h1 := of_decide_eq_false hl.1
              have h2 : 0 ≤ nMov B G m := by unfold nMov; omega
              omega
            · rfl
          omega
      exact key _ hm
theorem c_isOver {B : Brd} {G : Gam} {o p : Nat} {s : ST} (h : GA B G o p s) (hs : GS G o s) : f_X3_isOver o s = some (bI (ovr B G), s) := by
  have hm := c_moveCount h hs
  have hv := mvN_ovr h.1.1 (G := G)
  have hb := mvN_b (G := G) h.1.1
  have ho := h.2.1.1
  generalize mvN B G = N at *
  by_cases e : N = 0
  · rw [hv.mp e]
    simp (disch := omega) only [f_X3_isOver, hm, bI_t, g_kk, g_k1, g_n1, g_k2, g_n2, g_k3, g_n3, g_k4, g_n4, g_k5, g_n5, g_k7, g_n7, g_k8, g_n8, g_k9, g_n9, g_k6, g_r3, g_r4, g_r5, g_r6, g_r7, g_r10, g_q0, g_q1, g_q2, p_kk, p_k1, p_n1, p_k2, p_n2, p_k3, p_n3, p_k4, p_n4, p_k5, p_n5, p_k6, p_n6, p_k7, p_n7, p_k8, p_n8, p_k9, p_n9, p_k10, p_n10, p_k11, p_n11, p_k13, p_n13, p_k12, p_r2, p_r4, p_r5, p_r6, p_r7, p_r9, p_r10, p_r11, p_r13, p_r14, p_r15, p_r16, p_h0, n_i8, n_i16, n_0, n_31, n_add, n_sub, n_mul, n_neg, n_div, n_rem, n_le_t, n_le_f, n_lt_t, n_lt_f, n_eq_t, n_eq_f, n_cl, n_gd, n_gdt, n_nz, Int.reduceToNat, Int.reduceAdd, Int.reduceSub, Int.reduceMul, Int.reduceNeg, Int.reduceLT, Int.reduceLE, Int.reduceEq, Int.reduceDiv, Int.reduceMod, Nat.reduceAdd, Nat.reduceMul, ↓reduceIte, u_eq, u_no, u_nk, u_ek, u_2, u_3, j_1, j_3, j_eq, j_no, j_nk, ltd, bnd]
  · have : ovr B G = false := by cases k : ovr B G with
      | true => exact absurd (hv.mpr k) e
      | false => rfl
    rw [this]
    simp (disch := omega) only [f_X3_isOver, hm, bI_f, g_kk, g_k1, g_n1, g_k2, g_n2, g_k3, g_n3, g_k4, g_n4, g_k5, g_n5, g_k7, g_n7, g_k8, g_n8, g_k9, g_n9, g_k6, g_r3, g_r4, g_r5, g_r6, g_r7, g_r10, g_q0, g_q1, g_q2, p_kk, p_k1, p_n1, p_k2, p_n2, p_k3, p_n3, p_k4, p_n4, p_k5, p_n5, p_k6, p_n6, p_k7, p_n7, p_k8, p_n8, p_k9, p_n9, p_k10, p_n10, p_k11, p_n11, p_k13, p_n13, p_k12, p_r2, p_r4, p_r5, p_r6, p_r7, p_r9, p_r10, p_r11, p_r13, p_r14, p_r15, p_r16, p_h0, n_i8, n_i16, n_0, n_31, n_add, n_sub, n_mul, n_neg, n_div, n_rem, n_le_t, n_le_f, n_lt_t, n_lt_f, n_eq_t, n_eq_f, n_cl, n_gd, n_gdt, n_nz, Int.reduceToNat, Int.reduceAdd, Int.reduceSub, Int.reduceMul, Int.reduceNeg, Int.reduceLT, Int.reduceLE, Int.reduceEq, Int.reduceDiv, Int.reduceMod, Nat.reduceAdd, Nat.reduceMul, ↓reduceIte, u_eq, u_no, u_nk, u_ek, u_2, u_3, j_1, j_3, j_eq, j_no, j_nk, ltd, bnd]
theorem c_bitAt_L {f : Int → Bool} {s : ST} : ∀ (n F : Nat) (i l : Int), 0 ≤ i → (n : Int) = 25 - i → n < F → 0 ≤ l → l < (((upto n i).filter f).length : Int) → f_X3_bitAt_L4 F (bmk f) (Int32.ofInt l) (Int32.ofInt i) s = some (Int32.ofInt (((upto n i).filter f).getD l.toNat 0), s) := by
  intro n
  induction n with
  | zero =>
    intro F i l h0 hn hF l0 l1
    have : ((upto 0 i).filter f).length = 0 := rfl
    omega
  | succ n ih =>
    intro F i l h0 hn hF l0 l1
    obtain ⟨F, rfl⟩ : ∃ F', F = F' + 1 := ⟨F - 1, by omega⟩
    have hb := bit_q f (q := i) h0 (by omega)
    have hlen : ((upto n (i + 1)).filter f).length ≤ n := Nat.le_trans (List.length_filter_le _ _) (by rw [upto_len]; exact Nat.le_refl _)
    simp only [upto] at l1 ⊢
    rw [List.filter_cons] at l1 ⊢
    cases e : f i with
    | true =>
      rw [e] at hb
      rw [e, if_pos rfl] at l1
      rw [if_pos rfl]
      rw [List.length_cons] at l1
      by_cases e2 : l = 0
      · rw [e2]
        rw [f_X3_bitAt_L4]
        simp (disch := omega) only [hb, bI_t, n_i8, n_i16, n_0, n_31, n_add, n_sub, n_mul, n_neg, n_div, n_rem, n_le_t, n_le_f, n_lt_t, n_lt_f, n_eq_t, n_eq_f, n_cl, n_gd, n_gdt, n_nz, Int.reduceToNat, Int.reduceAdd, Int.reduceSub, Int.reduceMul, Int.reduceNeg, Int.reduceLT, Int.reduceLE, Int.reduceEq, Int.reduceDiv, Int.reduceMod, Nat.reduceAdd, Nat.reduceMul, ↓reduceIte, u_eq, u_no, u_nk, u_ek, u_2, u_3, j_1, j_3, j_eq, j_no, j_nk, ltd, bnd, Int.toNat_zero, List.getD_cons_zero]
      · rw [show l.toNat = (l - 1).toNat + 1 by omega, List.getD_cons_succ, ← ih F (i + 1) (l - 1) (by omega) (by omega) (by omega) (by omega) (by omega)]
        rw [f_X3_bitAt_L4]
        have e3 : l + -1 = l - 1 := by omega
        simp (disch := omega) only [hb, bI_t, e3, n_i8, n_i16, n_0, n_31, n_add, n_sub, n_mul, n_neg, n_div, n_rem, n_le_t, n_le_f, n_lt_t, n_lt_f, n_eq_t, n_eq_f, n_cl, n_gd, n_gdt, n_nz, Int.reduceToNat, Int.reduceAdd, Int.reduceSub, Int.reduceMul, Int.reduceNeg, Int.reduceLT, Int.reduceLE, Int.reduceEq, Int.reduceDiv, Int.reduceMod, Nat.reduceAdd, Nat.reduceMul, ↓reduceIte, u_eq, u_no, u_nk, u_ek, u_2, u_3, j_1, j_3, j_eq, j_no, j_nk, ltd, bnd]
    | false =>
      rw [e] at hb
      rw [e, if_neg (by decide)] at l1
      rw [if_neg (by decide), ← ih F (i + 1) l (by omega) (by omega) (by omega) l0 l1]
      rw [f_X3_bitAt_L4]
      simp (disch := omega) only [hb, bI_f, n_i8, n_i16, n_0, n_31, n_add, n_sub, n_mul, n_neg, n_div, n_rem, n_le_t, n_le_f, n_lt_t, n_lt_f, n_eq_t, n_eq_f, n_cl, n_gd, n_gdt, n_nz, Int.reduceToNat, Int.reduceAdd, Int.reduceSub, Int.reduceMul, Int.reduceNeg, Int.reduceLT, Int.reduceLE, Int.reduceEq, Int.reduceDiv, Int.reduceMod, Nat.reduceAdd, Nat.reduceMul, ↓reduceIte, u_eq, u_no, u_nk, u_ek, u_2, u_3, j_1, j_3, j_eq, j_no, j_nk, ltd, bnd]
/-- the moves of men, as man and place -/
def cm1 (B : Brd) (G : Gam) (m : Int) : List (Int × Int) := if outB B G (gs G) m = true then (pls.filter (gQ B G m)).map (fun q => (m, q)) else []
def cml (B : Brd) (G : Gam) (l : List Int) : List (Int × Int) := l.flatMap (cm1 B G)
theorem cm1_mv {B : Brd} (hB : Bv B) {G : Gam} (m : Int) : cm1 B G m = (mv1 B G m).map (fun p => (p.1, p5 B p.2)) := by
  unfold cm1 mv1
  rw [gQ_ks hB, List.map_map, List.map_map]
  unfold outB
  by_cases e1 : sd B m = gs G
  · rw [decide_eq_true e1, Bool.true_and]
    have hf : (sqs B).filter (cond B G m) = ks B G m := by
      unfold ks
      refine List.filter_congr (fun k _ => ?_)
      unfold cond
      rw [decide_eq_true e1, Bool.true_and]
    rw [hf]
    by_cases e2 : gx G m = -1
    · have hk : ks B G m = [] := by
        have := nMov_tk hB e2
        unfold nMov at this
        exact List.length_eq_zero_iff.mp (by omega)
      unfold tk
      rw [decide_eq_true e2, hk, if_neg (by decide)]
      rfl
    · unfold tk
      rw [decide_eq_false e2, Bool.not_false, if_pos rfl]
      rfl
  · have hf : (sqs B).filter (cond B G m) = [] := List.filter_eq_nil_iff.mpr (fun k _ => by
      unfold cond
      rw [decide_eq_false e1, Bool.false_and]; decide)
    rw [decide_eq_false e1, Bool.false_and, if_neg (by decide), hf]
    rfl
theorem cml_mv {B : Brd} (hB : Bv B) {G : Gam} : cml B G (mens B) = (mvl B G).map (fun p => (p.1, p5 B p.2)) := by
  unfold cml mvl
  rw [List.map_flatMap]
  congr 1
  funext m
  exact cm1_mv hB m
theorem cm1_len {B : Brd} {G : Gam} (m : Int) : ((cm1 B G m).length : Int) = if outB B G (gs G) m = true then cnF (gQ B G m) else 0 := by
  unfold cm1
  split
  · rw [List.length_map]; rfl
  · rfl
theorem c_moveAt_L {B : Brd} {G : Gam} {o p : Nat} {s : ST} (h : GA B G o p s) (hs : GS G o s) (hc : ct B G = false) {k : Int} (k0 : 0 ≤ k) (k1 : k ≤ 2147483647) : ∀ (n F : Nat) (i l : Int), 0 ≤ i → (n : Int) = bM B - i → n < F → 0 ≤ l → l ≤ k → (l < ((cml B G (upto n i)).length : Int) → f_X3_moveAt_L4 f_X3_moveAt_j61 F o (Int32.ofInt k) (Int32.ofInt l) (Int32.ofInt i) s = some (Int32.ofInt (25 * ((cml B G (upto n i)).getD l.toNat (0, 0)).1 + ((cml B G (upto n i)).getD l.toNat (0, 0)).2), s)) ∧ (((cml B G (upto n i)).length : Int) ≤ l → f_X3_moveAt_L4 f_X3_moveAt_j61 F o (Int32.ofInt k) (Int32.ofInt l) (Int32.ofInt i) s = some (Int32.ofInt (-1), s)) := by
  have h0 := h
  obtain ⟨⟨hB, hG⟩, ⟨ho, hp⟩, hP, ⟨hn, -⟩, -, -, -, -, h9⟩ := h0
  have hM : bM B ≤ 8 := hB.1.1.2.2.2.2.2.2.2.1
  have c8 : s.1 p 8 = Int32.ofInt (bM B) := hn.2.2.2.1
  have hgs := hG.1.2.2
  rw [(ct_ctn G).2.mpr hc] at h9
  unfold GS at hs
  intro n
  induction n with
  | zero =>
    intro F i l h0 hn hF l0 l1
    obtain ⟨F, rfl⟩ : ∃ F', F = F' + 1 := ⟨F - 1, by omega⟩
    refine ⟨fun c => ?_, fun _ => ?_⟩
    · have : ((cml B G (upto 0 i)).length : Int) = 0 := rfl
      omega
    · simp (disch := omega) only [f_X3_moveAt_L4, hP, c8, h9, g_kk, g_k1, g_n1, g_k2, g_n2, g_k3, g_n3, g_k4, g_n4, g_k5, g_n5, g_k7, g_n7, g_k8, g_n8, g_k9, g_n9, g_k6, g_r3, g_r4, g_r5, g_r6, g_r7, g_r10, g_q0, g_q1, g_q2, p_kk, p_k1, p_n1, p_k2, p_n2, p_k3, p_n3, p_k4, p_n4, p_k5, p_n5, p_k6, p_n6, p_k7, p_n7, p_k8, p_n8, p_k9, p_n9, p_k10, p_n10, p_k11, p_n11, p_k13, p_n13, p_k12, p_r2, p_r4, p_r5, p_r6, p_r7, p_r9, p_r10, p_r11, p_r13, p_r14, p_r15, p_r16, p_h0, n_i8, n_i16, n_0, n_31, n_add, n_sub, n_mul, n_neg, n_div, n_rem, n_le_t, n_le_f, n_lt_t, n_lt_f, n_eq_t, n_eq_f, n_cl, n_gd, n_gdt, n_nz, Int.reduceToNat, Int.reduceAdd, Int.reduceSub, Int.reduceMul, Int.reduceNeg, Int.reduceLT, Int.reduceLE, Int.reduceEq, Int.reduceDiv, Int.reduceMod, Nat.reduceAdd, Nat.reduceMul, ↓reduceIte, u_eq, u_no, u_nk, u_ek, u_2, u_3, j_1, j_3, j_eq, j_no, j_nk, ltd, bnd]
  | succ n ih =>
    intro F i l h0 hn hF l0 l1
    obtain ⟨F, rfl⟩ : ∃ F', F = F' + 1 := ⟨F - 1, by omega⟩
    have hi := c_isOut h h0 (show i < bM B by omega) hgs.1 hgs.2
    have hg := c_goals h h0 (show i < bM B by omega)
    have hcn := c_cnt (gQ B G i) s
    have hcb := cnF_b (gQ B G i)
    have hlen := cm1_len (B := B) (G := G) i
    have hcm : cml B G (upto (n + 1) i) = cm1 B G i ++ cml B G (upto n (i + 1)) := by
      show (i :: upto n (i + 1)).flatMap (cm1 B G) = _
      rw [List.flatMap_cons]
      rfl
    rw [hcm, List.length_append]
    cases e : outB B G (gs G) i with
    | false =>
      rw [e] at hi
      rw [e, if_neg (by decide)] at hlen
      have hnil : cm1 B G i = [] := List.length_eq_zero_iff.mp (by omega)
      rw [hnil, List.nil_append]
      have ih := ih F (i + 1) l (by omega) (by omega) (by omega) l0 l1
      have hstep : f_X3_moveAt_L4 f_X3_moveAt_j61 (F + 1) o (Int32.ofInt k) (Int32.ofInt l) (Int32.ofInt i) s = f_X3_moveAt_L4 f_X3_moveAt_j61 F o (Int32.ofInt k) (Int32.ofInt l) (Int32.ofInt (i + 1)) s := by
        rw [f_X3_moveAt_L4]
        simp (disch := omega) only [hP, c8, h9, hs, hi, bI_f, g_kk, g_k1, g_n1, g_k2, g_n2, g_k3, g_n3, g_k4, g_n4, g_k5, g_n5, g_k7, g_n7, g_k8, g_n8, g_k9, g_n9, g_k6, g_r3, g_r4, g_r5, g_r6, g_r7, g_r10, g_q0, g_q1, g_q2, p_kk, p_k1, p_n1, p_k2, p_n2, p_k3, p_n3, p_k4, p_n4, p_k5, p_n5, p_k6, p_n6, p_k7, p_n7, p_k8, p_n8, p_k9, p_n9, p_k10, p_n10, p_k11, p_n11, p_k13, p_n13, p_k12, p_r2, p_r4, p_r5, p_r6, p_r7, p_r9, p_r10, p_r11, p_r13, p_r14, p_r15, p_r16, p_h0, n_i8, n_i16, n_0, n_31, n_add, n_sub, n_mul, n_neg, n_div, n_rem, n_le_t, n_le_f, n_lt_t, n_lt_f, n_eq_t, n_eq_f, n_cl, n_gd, n_gdt, n_nz, Int.reduceToNat, Int.reduceAdd, Int.reduceSub, Int.reduceMul, Int.reduceNeg, Int.reduceLT, Int.reduceLE, Int.reduceEq, Int.reduceDiv, Int.reduceMod, Nat.reduceAdd, Nat.reduceMul, ↓reduceIte, u_eq, u_no, u_nk, u_ek, u_2, u_3, j_1, j_3, j_eq, j_no, j_nk, ltd, bnd]
      rw [hstep]
      exact ⟨fun c => ih.1 (by simpa using c), fun c => ih.2 (by simpa using c)⟩
    | true =>
      rw [e] at hi
      rw [e, if_pos rfl] at hlen
      by_cases e2 : l < cnF (gQ B G i)
      · refine ⟨fun _ => ?_, fun c => by omega⟩
        have hb := c_bitAt_L (f := gQ B G i) (s := s) 25 fuel 0 l (by omega) (by omega) (by unfold fuel; omega) l0 e2
        have hb : f_X3_bitAt (bmk (gQ B G i)) (Int32.ofInt l) s = some (Int32.ofInt ((pls.filter (gQ B G i)).getD l.toNat 0), s) := hb
        have hget : (cm1 B G i ++ cml B G (upto n (i + 1))).getD l.toNat (0, 0) = (i, (pls.filter (gQ B G i)).getD l.toNat 0) := by
          have hlt : l.toNat < (pls.filter (gQ B G i)).length := by unfold cnF at e2; omega
          rw [List.getD_eq_getElem?_getD, List.getElem?_append_left (by omega)]
          unfold cm1
          rw [if_pos e, List.getElem?_map, List.getD_eq_getElem?_getD, List.getElem?_eq_getElem hlt]
          rfl
        rw [hget]
        have e25 : i * 25 + (pls.filter (gQ B G i)).getD l.toNat 0 = 25 * i + (pls.filter (gQ B G i)).getD l.toNat 0 := by omega
        rw [f_X3_moveAt_L4]
        simp (disch := omega) only [f_X3_moveAt_j61, f_X9_moveOf, hP, c8, h9, hs, hi, hg, hcn, hb, e25, bI_t, g_kk, g_k1, g_n1, g_k2, g_n2, g_k3, g_n3, g_k4, g_n4, g_k5, g_n5, g_k7, g_n7, g_k8, g_n8, g_k9, g_n9, g_k6, g_r3, g_r4, g_r5, g_r6, g_r7, g_r10, g_q0, g_q1, g_q2, p_kk, p_k1, p_n1, p_k2, p_n2, p_k3, p_n3, p_k4, p_n4, p_k5, p_n5, p_k6, p_n6, p_k7, p_n7, p_k8, p_n8, p_k9, p_n9, p_k10, p_n10, p_k11, p_n11, p_k13, p_n13, p_k12, p_r2, p_r4, p_r5, p_r6, p_r7, p_r9, p_r10, p_r11, p_r13, p_r14, p_r15, p_r16, p_h0, n_i8, n_i16, n_0, n_31, n_add, n_sub, n_mul, n_neg, n_div, n_rem, n_le_t, n_le_f, n_lt_t, n_lt_f, n_eq_t, n_eq_f, n_cl, n_gd, n_gdt, n_nz, Int.reduceToNat, Int.reduceAdd, Int.reduceSub, Int.reduceMul, Int.reduceNeg, Int.reduceLT, Int.reduceLE, Int.reduceEq, Int.reduceDiv, Int.reduceMod, Nat.reduceAdd, Nat.reduceMul, ↓reduceIte, u_eq, u_no, u_nk, u_ek, u_2, u_3, j_1, j_3, j_eq, j_no, j_nk, ltd, bnd]
      · have ih := ih F (i + 1) (l - cnF (gQ B G i)) (by omega) (by omega) (by omega) (by omega) (by omega)
        have hstep : f_X3_moveAt_L4 f_X3_moveAt_j61 (F + 1) o (Int32.ofInt k) (Int32.ofInt l) (Int32.ofInt i) s = f_X3_moveAt_L4 f_X3_moveAt_j61 F o (Int32.ofInt k) (Int32.ofInt (l - cnF (gQ B G i))) (Int32.ofInt (i + 1)) s := by
          rw [f_X3_moveAt_L4]
          simp (disch := omega) only [hP, c8, h9, hs, hi, hg, hcn, bI_t, g_kk, g_k1, g_n1, g_k2, g_n2, g_k3, g_n3, g_k4, g_n4, g_k5, g_n5, g_k7, g_n7, g_k8, g_n8, g_k9, g_n9, g_k6, g_r3, g_r4, g_r5, g_r6, g_r7, g_r10, g_q0, g_q1, g_q2, p_kk, p_k1, p_n1, p_k2, p_n2, p_k3, p_n3, p_k4, p_n4, p_k5, p_n5, p_k6, p_n6, p_k7, p_n7, p_k8, p_n8, p_k9, p_n9, p_k10, p_n10, p_k11, p_n11, p_k13, p_n13, p_k12, p_r2, p_r4, p_r5, p_r6, p_r7, p_r9, p_r10, p_r11, p_r13, p_r14, p_r15, p_r16, p_h0, n_i8, n_i16, n_0, n_31, n_add, n_sub, n_mul, n_neg, n_div, n_rem, n_le_t, n_le_f, n_lt_t, n_lt_f, n_eq_t, n_eq_f, n_cl, n_gd, n_gdt, n_nz, Int.reduceToNat, Int.reduceAdd, Int.reduceSub, Int.reduceMul, Int.reduceNeg, Int.reduceLT, Int.reduceLE, Int.reduceEq, Int.reduceDiv, Int.reduceMod, Nat.reduceAdd, Nat.reduceMul, ↓reduceIte, u_eq, u_no, u_nk, u_ek, u_2, u_3, j_1, j_3, j_eq, j_no, j_nk, ltd, bnd]
        rw [hstep]
        refine ⟨fun c => ?_, fun c => ih.2 (by omega)⟩
        have hget : (cm1 B G i ++ cml B G (upto n (i + 1))).getD l.toNat (0, 0) = (cml B G (upto n (i + 1))).getD (l - cnF (gQ B G i)).toNat (0, 0) := by
          rw [List.getD_eq_getElem?_getD, List.getD_eq_getElem?_getD, List.getElem?_append_right (by omega)]
          congr 2
          omega
        rw [hget]
        exact ih.1 (by omega)
/-- a chosen move as the class numbers it -/
def mvC (B : Brd) (A : CA) : Int := if A.1 = -1 then -1 else 25 * A.2.2.2.1 + p5 B A.2.2.2.2
theorem c_moveAt {B : Brd} {G : Gam} {o p : Nat} {s : ST} (h : GA B G o p s) (hs : GS G o s) {k : Int} (k0 : -2147483648 ≤ k) (k1 : k ≤ 2147483647) : f_X3_moveAt o (Int32.ofInt k) s = some (Int32.ofInt (mvC B (chz B G k)), s) := by
  have hB := h.1.1
  have hM0 : 0 ≤ bM B := hB.1.1.2.2.2.2.2.2.1
  have hM : bM B ≤ 8 := hB.1.1.2.2.2.2.2.2.2.1
  have ho := h.2.1.1
  have h9 := h.2.2.2.2.2.2.2.2
  have hz := ct_ctn (B := B) G
  have hb := ctn_b hB G
  have hout : ∀ F : Nat, (k < 0 ∨ ct B G = true) → f_X3_moveAt_L4 f_X3_moveAt_j61 (F + 1) o (Int32.ofInt k) (Int32.ofInt k) (Int32.ofInt 0) s = some (Int32.ofInt (-1), s) := by
    intro F c
    cases hc : ct B G with
    | true =>
      have hne : ¬ ctn B G = 0 := fun c => by have := hz.2.mp c; rw [hc] at this; cases this
      simp (disch := omega) only [f_X3_moveAt_L4, h9, g_kk, g_k1, g_n1, g_k2, g_n2, g_k3, g_n3, g_k4, g_n4, g_k5, g_n5, g_k7, g_n7, g_k8, g_n8, g_k9, g_n9, g_k6, g_r3, g_r4, g_r5, g_r6, g_r7, g_r10, g_q0, g_q1, g_q2, p_kk, p_k1, p_n1, p_k2, p_n2, p_k3, p_n3, p_k4, p_n4, p_k5, p_n5, p_k6, p_n6, p_k7, p_n7, p_k8, p_n8, p_k9, p_n9, p_k10, p_n10, p_k11, p_n11, p_k13, p_n13, p_k12, p_r2, p_r4, p_r5, p_r6, p_r7, p_r9, p_r10, p_r11, p_r13, p_r14, p_r15, p_r16, p_h0, n_i8, n_i16, n_0, n_31, n_add, n_sub, n_mul, n_neg, n_div, n_rem, n_le_t, n_le_f, n_lt_t, n_lt_f, n_eq_t, n_eq_f, n_cl, n_gd, n_gdt, n_nz, Int.reduceToNat, Int.reduceAdd, Int.reduceSub, Int.reduceMul, Int.reduceNeg, Int.reduceLT, Int.reduceLE, Int.reduceEq, Int.reduceDiv, Int.reduceMod, Nat.reduceAdd, Nat.reduceMul, ↓reduceIte, u_eq, u_no, u_nk, u_ek, u_2, u_3, j_1, j_3, j_eq, j_no, j_nk, ltd, bnd]
    | false =>
      rw [hz.2.mpr hc] at h9
      have hk : k < 0 := by
        rcases c with c | c
        · exact c
        · rw [hc] at c; cases c
      simp (disch := omega) only [f_X3_moveAt_L4, h9, g_kk, g_k1, g_n1, g_k2, g_n2, g_k3, g_n3, g_k4, g_n4, g_k5, g_n5, g_k7, g_n7, g_k8, g_n8, g_k9, g_n9, g_k6, g_r3, g_r4, g_r5, g_r6, g_r7, g_r10, g_q0, g_q1, g_q2, p_kk, p_k1, p_n1, p_k2, p_n2, p_k3, p_n3, p_k4, p_n4, p_k5, p_n5, p_k6, p_n6, p_k7, p_n7, p_k8, p_n8, p_k9, p_n9, p_k10, p_n10, p_k11, p_n11, p_k13, p_n13, p_k12, p_r2, p_r4, p_r5, p_r6, p_r7, p_r9, p_r10, p_r11, p_r13, p_r14, p_r15, p_r16, p_h0, n_i8, n_i16, n_0, n_31, n_add, n_sub, n_mul, n_neg, n_div, n_rem, n_le_t, n_le_f, n_lt_t, n_lt_f, n_eq_t, n_eq_f, n_cl, n_gd, n_gdt, n_nz, Int.reduceToNat, Int.reduceAdd, Int.reduceSub, Int.reduceMul, Int.reduceNeg, Int.reduceLT, Int.reduceLE, Int.reduceEq, Int.reduceDiv, Int.reduceMod, Nat.reduceAdd, Nat.reduceMul, ↓reduceIte, u_eq, u_no, u_nk, u_ek, u_2, u_3, j_1, j_3, j_eq, j_no, j_nk, ltd, bnd]
  unfold chz
  by_cases e1 : k < 0 ∨ ct B G = true
  · have e1' : k < 0 ∨ ct B G = true ∨ ((mvl B G).length : Int) ≤ k := by rcases e1 with e | e; exact Or.inl e; exact Or.inr (Or.inl e)
    rw [if_pos e1']
    exact hout 99999 e1
  · have hk : 0 ≤ k := by have : ¬ k < 0 := fun c => e1 (Or.inl c)
                          omega
    have hc : ct B G = false := by cases e : ct B G with
      | true => exact absurd (Or.inr e) e1
      | false => rfl
    have hL := c_moveAt_L h hs hc hk k1 (bM B).toNat fuel 0 k (by omega) (by omega) (by unfold fuel; omega) hk (Int.le_refl k)
    have hcm := cml_mv hB (G := G)
    have hlen : (cml B G (mens B)).length = (mvl B G).length := by rw [hcm, List.length_map]
    unfold mens at hcm hlen
    by_cases e2 : ((mvl B G).length : Int) ≤ k
    · rw [if_pos (Or.inr (Or.inr e2))]
      exact hL.2 (by omega)
    · rw [if_neg (fun c => by rcases c with c | c | c; exact e1 (Or.inl c); exact e1 (Or.inr c); exact e2 c)]
      have := hL.1 (by omega)
      have hget : (cml B G (upto (bM B).toNat 0)).getD k.toNat (0, 0) = (((mvl B G).getD k.toNat (0, 0)).1, p5 B ((mvl B G).getD k.toNat (0, 0)).2) := by
        have hlt : k.toNat < (mvl B G).length := by omega
        rw [hcm, List.getD_eq_getElem?_getD, List.getElem?_map, List.getD_eq_getElem?_getD, List.getElem?_eq_getElem hlt]
        rfl
      rw [hget] at this
      unfold mvC
      rw [if_neg (show ¬ k = -1 by omega)]
      exact this
