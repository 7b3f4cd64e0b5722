/-! L3: the number of a move in the class -/
theorem fil_lt (g : Int → Bool) : ∀ (n : Nat) (i : Int) (w : Nat) (x : Int), w < ((upto n i).filter g).length → ((upto n i).filter g).getD w 0 = x → ((upto n i).filter (fun j => g j && decide (j < x))).length = w
  | 0, i, w, x, h, _ => by simp only [upto, List.filter_nil, List.length_nil] at h; omega
  | n + 1, i, w, x, h, hx => by
    have hu : upto (n + 1) i = i :: upto n (i + 1) := rfl
    rw [hu] at h hx ⊢
    cases e : g i with
    | false =>
      rw [List.filter_cons, e, if_neg (by decide)] at h hx
      rw [List.filter_cons, e, Bool.false_and, if_neg (by decide)]
      exact fil_lt g n (i + 1) w x h hx
    | true =>
      rw [List.filter_cons, e, if_pos rfl] at h hx
      rw [List.length_cons] at h
      cases w with
      | zero =>
        rw [List.getD_cons_zero] at hx
        rw [List.length_eq_zero_iff, List.filter_eq_nil_iff]
        intro j hj
        have : i ≤ j := by
          rw [List.mem_cons, mem_upto] at hj
          omega
        rw [decide_eq_false (by omega), Bool.and_false]
        decide
      | succ w =>
        rw [List.getD_cons_succ] at hx
        have hw : w < ((upto n (i + 1)).filter g).length := by omega
        have ih := fil_lt g n (i + 1) w x hw hx
        have hmem : ((upto n (i + 1)).filter g).getD w 0 ∈ (upto n (i + 1)).filter g := by
          rw [List.getD_eq_getElem?_getD, List.getElem?_eq_getElem hw]
          exact List.getElem_mem hw
        rw [hx] at hmem
        have hq := mem_upto.mp (List.mem_filter.mp hmem).1
        rw [List.filter_cons, e, decide_eq_true (by omega), Bool.true_and, if_pos rfl, List.length_cons, ih]
/-- the place of a move in the row of the class's moves -/
def psn (B : Brd) (G : Gam) (m q : Int) : Int := smL (mvN1 B G) (upto m.toNat 0) + (if outB B G (gs G) m = true then cnF (fun j => gQ B G m j && decide (j < q)) else 0)
theorem c_man {m q : Int} (m0 : 0 ≤ m) (m1 : m ≤ 8) (q0 : 0 ≤ q) (q1 : q < 25) (s : ST) : f_X9_manOfMove (Int32.ofInt (25 * m + q)) s = some (Int32.ofInt m, s) := by
  have h25 : (Int8.ofInt 25).toInt32 = Int32.ofInt 25 := by decide
  unfold f_X9_manOfMove
  rw [h25, n_div (by omega) (by omega) (by omega) (by omega), show (25 * m + q) / 25 = m by omega]
theorem c_plc {m q : Int} (m0 : 0 ≤ m) (m1 : m ≤ 8) (q0 : 0 ≤ q) (q1 : q < 25) (s : ST) : f_X9_placeOfMove (Int32.ofInt (25 * m + q)) s = some (Int32.ofInt q, s) := by
  have h25 : (Int8.ofInt 25).toInt32 = Int32.ofInt 25 := by decide
  have e : 25 * m + q - m * 25 = q := by omega
  unfold f_X9_placeOfMove
  rw [h25, n_div (by omega) (by omega) (by omega) (by omega), show (25 * m + q) / 25 = m by omega]
  simp (disch := omega) only [e, n_i8, n_i16, n_0, n_31, n_add, n_sub, n_mul, n_neg, n_div, n_rem, n_le_t, n_le_f, n_lt_t, n_lt_f, n_eq_t, n_eq_f, n_cl, n_gd, n_gdt, n_nz, Int.reduceToNat, Int.reduceAdd, Int.reduceSub, Int.reduceMul, Int.reduceNeg, Int.reduceLT, Int.reduceLE, Int.reduceEq, Int.reduceDiv, Int.reduceMod, Nat.reduceAdd, Nat.reduceMul, ↓reduceIte, u_eq, u_no, u_nk, u_ek, u_2, u_3, j_1, j_3, j_eq, j_no, j_nk, ltd, bnd]
theorem c_num_L {B : Brd} {G : Gam} {o p : Nat} {s : ST} (h : GA B G o p s) (hs : GS G o s) {m q : Int} (m0 : 0 ≤ m) (m1 : m < bM B) (q0 : 0 ≤ q) (q1 : q < 25) : ∀ (n F : Nat) (i a : Int), 0 ≤ i → (n : Int) = m - i → n + 1 < F → f_X3_numberOf_L10 F o (Int32.ofInt (25 * m + q)) (Int32.ofInt a) (Int32.ofInt i) s = some (Int32.ofInt (a + smL (mvN1 B G) (upto n i) + (if outB B G (gs G) m = true then cnF (fun j => gQ B G m j && decide (j < q)) else 0)), s) := by
  have h0 := h
  obtain ⟨⟨hB, hG⟩, ⟨ho, hp⟩, hP, ⟨hn, -⟩, -, -, -, -, h9⟩ := h0
  have hM : bM B ≤ 8 := hB.1.1.2.2.2.2.2.2.2.1
  have c8 : s.1 p 8 = Int32.ofInt (bM B) := hn.2.2.2.1
  have hgs := hG.1.2.2
  unfold GS at hs
  have hman := c_man m0 (show m ≤ 8 by omega) q0 q1 s
  have hplc := c_plc m0 (show m ≤ 8 by omega) q0 q1 s
  have hlow := low_q q0 q1
  have hend : ∀ (F : Nat) (a : Int), f_X3_numberOf_L10 (F + 1) o (Int32.ofInt (25 * m + q)) (Int32.ofInt a) (Int32.ofInt (m + 1)) s = some (Int32.ofInt a, s) := fun F a => by
    by_cases e : bM B ≤ m + 1
    · simp (disch := omega) only [f_X3_numberOf_L10, hP, c8, g_kk, g_k1, g_n1, g_k2, g_n2, g_k3, g_n3, g_k4, g_n4, g_k5, g_n5, g_k7, g_n7, g_k8, g_n8, g_k9, g_n9, g_k6, g_r3, g_r4, g_r5, g_r6, g_r7, g_r10, g_q0, g_q1, g_q2, p_kk, p_k1, p_n1, p_k2, p_n2, p_k3, p_n3, p_k4, p_n4, p_k5, p_n5, p_k6, p_n6, p_k7, p_n7, p_k8, p_n8, p_k9, p_n9, p_k10, p_n10, p_k11, p_n11, p_k13, p_n13, p_k12, p_r2, p_r4, p_r5, p_r6, p_r7, p_r9, p_r10, p_r11, p_r13, p_r14, p_r15, p_r16, p_h0, n_i8, n_i16, n_0, n_31, n_add, n_sub, n_mul, n_neg, n_div, n_rem, n_le_t, n_le_f, n_lt_t, n_lt_f, n_eq_t, n_eq_f, n_cl, n_gd, n_gdt, n_nz, Int.reduceToNat, Int.reduceAdd, Int.reduceSub, Int.reduceMul, Int.reduceNeg, Int.reduceLT, Int.reduceLE, Int.reduceEq, Int.reduceDiv, Int.reduceMod, Nat.reduceAdd, Nat.reduceMul, ↓reduceIte, u_eq, u_no, u_nk, u_ek, u_2, u_3, j_1, j_3, j_eq, j_no, j_nk, ltd, bnd]
    · simp (disch := omega) only [f_X3_numberOf_L10, hP, c8, hman, g_kk, g_k1, g_n1, g_k2, g_n2, g_k3, g_n3, g_k4, g_n4, g_k5, g_n5, g_k7, g_n7, g_k8, g_n8, g_k9, g_n9, g_k6, g_r3, g_r4, g_r5, g_r6, g_r7, g_r10, g_q0, g_q1, g_q2, p_kk, p_k1, p_n1, p_k2, p_n2, p_k3, p_n3, p_k4, p_n4, p_k5, p_n5, p_k6, p_n6, p_k7, p_n7, p_k8, p_n8, p_k9, p_n9, p_k10, p_n10, p_k11, p_n11, p_k13, p_n13, p_k12, p_r2, p_r4, p_r5, p_r6, p_r7, p_r9, p_r10, p_r11, p_r13, p_r14, p_r15, p_r16, p_h0, n_i8, n_i16, n_0, n_31, n_add, n_sub, n_mul, n_neg, n_div, n_rem, n_le_t, n_le_f, n_lt_t, n_lt_f, n_eq_t, n_eq_f, n_cl, n_gd, n_gdt, n_nz, Int.reduceToNat, Int.reduceAdd, Int.reduceSub, Int.reduceMul, Int.reduceNeg, Int.reduceLT, Int.reduceLE, Int.reduceEq, Int.reduceDiv, Int.reduceMod, Nat.reduceAdd, Nat.reduceMul, ↓reduceIte, u_eq, u_no, u_nk, u_ek, u_2, u_3, j_1, j_3, j_eq, j_no, j_nk, ltd, bnd]
  have hno : bmk (fun j => gQ B G m j) &&& bmk (fun j => decide (j < q)) = bmk (fun j => gQ B G m j && decide (j < q)) := bmk_and _ _
  have hno : bmk (gQ B G m) &&& bmk (fun j => decide (j < q)) = bmk (fun j => gQ B G m j && decide (j < q)) := hno
  have hnil : Int32.ofInt 0 &&& bmk (fun j => decide (j < q)) = Int32.ofInt 0 := by
    rw [← bmk_no, bmk_and]
    exact bmk_congr (fun _ _ _ => rfl)
  have hc0 : f_J6_bitCount_0f7a4 (Int32.ofInt 0) s = some (Int32.ofInt 0, s) := by
    have := c_cnt (fun _ => false) s
    rw [bmk_no] at this
    exact this
  have hcq := c_cnt (fun j => gQ B G m j && decide (j < q)) s
  intro n
  induction n with
  | zero =>
    intro F i a i0 hn hF
    obtain ⟨F, rfl⟩ : ∃ F', F = F' + 2 := ⟨F - 2, by omega⟩
    obtain rfl : i = m := by omega
    have hi := c_isOut h i0 m1 hgs.1 hgs.2
    have hg := c_goals h i0 m1
    have hz : smL (mvN1 B G) (upto 0 i) = 0 := rfl
    rw [hz, Int.add_zero]
    cases e : outB B G (gs G) i with
    | true =>
      rw [e] at hi
      rw [if_pos rfl, ← hend F]
      rw [f_X3_numberOf_L10]
      simp (disch := omega) only [f_X3_numberOf_j50, f_X3_numberOf_j81, hP, c8, hs, hi, hg, hman, hplc, hlow, hno, hcq, bI_t, g_kk, g_k1, g_n1, g_k2, g_n2, g_k3, g_n3, g_k4, g_n4, g_k5, g_n5, g_k7, g_n7, g_k8, g_n8, g_k9, g_n9, g_k6, g_r3, g_r4, g_r5, g_r6, g_r7, g_r10, g_q0, g_q1, g_q2, p_kk, p_k1, p_n1, p_k2, p_n2, p_k3, p_n3, p_k4, p_n4, p_k5, p_n5, p_k6, p_n6, p_k7, p_n7, p_k8, p_n8, p_k9, p_n9, p_k10, p_n10, p_k11, p_n11, p_k13, p_n13, p_k12, p_r2, p_r4, p_r5, p_r6, p_r7, p_r9, p_r10, p_r11, p_r13, p_r14, p_r15, p_r16, p_h0, n_i8, n_i16, n_0, n_31, n_add, n_sub, n_mul, n_neg, n_div, n_rem, n_le_t, n_le_f, n_lt_t, n_lt_f, n_eq_t, n_eq_f, n_cl, n_gd, n_gdt, n_nz, Int.reduceToNat, Int.reduceAdd, Int.reduceSub, Int.reduceMul, Int.reduceNeg, Int.reduceLT, Int.reduceLE, Int.reduceEq, Int.reduceDiv, Int.reduceMod, Nat.reduceAdd, Nat.reduceMul, ↓reduceIte, u_eq, u_no, u_nk, u_ek, u_2, u_3, j_1, j_3, j_eq, j_no, j_nk, ltd, bnd]
    | false =>
      rw [e] at hi
      rw [if_neg (by decide), Int.add_zero]
      refine Eq.trans ?_ (hend F a)
      rw [f_X3_numberOf_L10]
      simp (disch := omega) only [f_X3_numberOf_j50, f_X3_numberOf_j81, hP, c8, hs, hi, hman, hplc, hlow, hnil, hc0, Int.add_zero, bI_f, g_kk, g_k1, g_n1, g_k2, g_n2, g_k3, g_n3, g_k4, g_n4, g_k5, g_n5, g_k7, g_n7, g_k8, g_n8, g_k9, g_n9, g_k6, g_r3, g_r4, g_r5, g_r6, g_r7, g_r10, g_q0, g_q1, g_q2, p_kk, p_k1, p_n1, p_k2, p_n2, p_k3, p_n3, p_k4, p_n4, p_k5, p_n5, p_k6, p_n6, p_k7, p_n7, p_k8, p_n8, p_k9, p_n9, p_k10, p_n10, p_k11, p_n11, p_k13, p_n13, p_k12, p_r2, p_r4, p_r5, p_r6, p_r7, p_r9, p_r10, p_r11, p_r13, p_r14, p_r15, p_r16, p_h0, n_i8, n_i16, n_0, n_31, n_add, n_sub, n_mul, n_neg, n_div, n_rem, n_le_t, n_le_f, n_lt_t, n_lt_f, n_eq_t, n_eq_f, n_cl, n_gd, n_gdt, n_nz, Int.reduceToNat, Int.reduceAdd, Int.reduceSub, Int.reduceMul, Int.reduceNeg, Int.reduceLT, Int.reduceLE, Int.reduceEq, Int.reduceDiv, Int.reduceMod, Nat.reduceAdd, Nat.reduceMul, ↓reduceIte, u_eq, u_no, u_nk, u_ek, u_2, u_3, j_1, j_3, j_eq, j_no, j_nk, ltd, bnd]
  | succ n ih =>
    intro F i a i0 hn hF
    obtain ⟨F, rfl⟩ : ∃ F', F = F' + 1 := ⟨F - 1, by omega⟩
    have hi := c_isOut h i0 (show i < bM B by omega) hgs.1 hgs.2
    have hg := c_goals h i0 (show i < bM B by omega)
    have hcn := c_cnt (gQ B G i) s
    have hu : smL (mvN1 B G) (upto (n + 1) i) = mvN1 B G i + smL (mvN1 B G) (upto n (i + 1)) := by simp only [upto, smL]
    rw [hu, mvN1_out hB, ← Int.add_assoc]
    cases e : outB B G (gs G) i with
    | true =>
      rw [e] at hi
      rw [if_pos rfl]
      refine Eq.trans ?_ (ih F (i + 1) (a + cnF (gQ B G i)) (by omega) (by omega) (by omega))
      rw [f_X3_numberOf_L10]
      simp (disch := omega) only [f_X3_numberOf_j50, f_X3_numberOf_j81, hP, c8, hs, hi, hg, hcn, hman, hplc, bI_t, g_kk, g_k1, g_n1, g_k2, g_n2, g_k3, g_n3, g_k4, g_n4, g_k5, g_n5, g_k7, g_n7, g_k8, g_n8, g_k9, g_n9, g_k6, g_r3, g_r4, g_r5, g_r6, g_r7, g_r10, g_q0, g_q1, g_q2, p_kk, p_k1, p_n1, p_k2, p_n2, p_k3, p_n3, p_k4, p_n4, p_k5, p_n5, p_k6, p_n6, p_k7, p_n7, p_k8, p_n8, p_k9, p_n9, p_k10, p_n10, p_k11, p_n11, p_k13, p_n13, p_k12, p_r2, p_r4, p_r5, p_r6, p_r7, p_r9, p_r10, p_r11, p_r13, p_r14, p_r15, p_r16, p_h0, n_i8, n_i16, n_0, n_31, n_add, n_sub, n_mul, n_neg, n_div, n_rem, n_le_t, n_le_f, n_lt_t, n_lt_f, n_eq_t, n_eq_f, n_cl, n_gd, n_gdt, n_nz, Int.reduceToNat, Int.reduceAdd, Int.reduceSub, Int.reduceMul, Int.reduceNeg, Int.reduceLT, Int.reduceLE, Int.reduceEq, Int.reduceDiv, Int.reduceMod, Nat.reduceAdd, Nat.reduceMul, ↓reduceIte, u_eq, u_no, u_nk, u_ek, u_2, u_3, j_1, j_3, j_eq, j_no, j_nk, ltd, bnd]
    | false =>
      rw [e] at hi
      rw [if_neg (by decide), Int.add_zero]
      refine Eq.trans ?_ (ih F (i + 1) a (by omega) (by omega) (by omega))
      rw [f_X3_numberOf_L10]
      simp (disch := omega) only [f_X3_numberOf_j50, f_X3_numberOf_j81, hP, c8, hs, hi, hman, hplc, hc0, Int.add_zero, bI_f, g_kk, g_k1, g_n1, g_k2, g_n2, g_k3, g_n3, g_k4, g_n4, g_k5, g_n5, g_k7, g_n7, g_k8, g_n8, g_k9, g_n9, g_k6, g_r3, g_r4, g_r5, g_r6, g_r7, g_r10, g_q0, g_q1, g_q2, p_kk, p_k1, p_n1, p_k2, p_n2, p_k3, p_n3, p_k4, p_n4, p_k5, p_n5, p_k6, p_n6, p_k7, p_n7, p_k8, p_n8, p_k9, p_n9, p_k10, p_n10, p_k11, p_n11, p_k13, p_n13, p_k12, p_r2, p_r4, p_r5, p_r6, p_r7, p_r9, p_r10, p_r11, p_r13, p_r14, p_r15, p_r16, p_h0, n_i8, n_i16, n_0, n_31, n_add, n_sub, n_mul, n_neg, n_div, n_rem, n_le_t, n_le_f, n_lt_t, n_lt_f, n_eq_t, n_eq_f, n_cl, n_gd, n_gdt, n_nz, Int.reduceToNat, Int.reduceAdd, Int.reduceSub, Int.reduceMul, Int.reduceNeg, Int.reduceLT, Int.reduceLE, Int.reduceEq, Int.reduceDiv, Int.reduceMod, Nat.reduceAdd, Nat.reduceMul, ↓reduceIte, u_eq, u_no, u_nk, u_ek, u_2, u_3, j_1, j_3, j_eq, j_no, j_nk, ltd, bnd]
theorem c_num {B : Brd} {G : Gam} {o p : Nat} {s : ST} (h : GA B G o p s) (hs : GS G o s) {m q : Int} (m0 : 0 ≤ m) (m1 : m < bM B) (q0 : 0 ≤ q) (q1 : q < 25) : f_X3_numberOf o (Int32.ofInt (25 * m + q)) s = some (Int32.ofInt (psn B G m q), s) := by
  have hM : bM B ≤ 8 := h.1.1.1.1.2.2.2.2.2.2.2.1
  have hL := c_num_L h hs m0 m1 q0 q1 m.toNat fuel 0 0 (by omega) (by omega) (by unfold fuel; omega)
  rw [Int.zero_add] at hL
  have hL : f_X3_numberOf_L10 fuel o (Int32.ofInt (25 * m + q)) (Int32.ofInt 0) (Int32.ofInt 0) s = some (Int32.ofInt (psn B G m q), s) := hL
  unfold f_X3_numberOf
  simp (disch := omega) only [hL, n_i8, n_i16, n_0, n_31, n_add, n_sub, n_mul, n_neg, n_div, n_rem, n_le_t, n_le_f, n_lt_t, n_lt_f, n_eq_t, n_eq_f, n_cl, n_gd, n_gdt, n_nz, Int.reduceToNat, Int.reduceAdd, Int.reduceSub, Int.reduceMul, Int.reduceNeg, Int.reduceLT, Int.reduceLE, Int.reduceEq, Int.reduceDiv, Int.reduceMod, Nat.reduceAdd, Nat.reduceMul, ↓reduceIte, u_eq, u_no, u_nk, u_ek, u_2, u_3, j_1, j_3, j_eq, j_no, j_nk, ltd, bnd]
theorem psn_cml {B : Brd} (hB : Bv B) {G : Gam} {m q : Int} : ∀ (n : Nat) (i : Int) (w : Nat), 0 ≤ i → w < (cml B G (upto n i)).length → (cml B G (upto n i)).getD w (0, 0) = (m, q) → i ≤ m ∧ m < i + n ∧ (w : Int) = smL (mvN1 B G) (upto (m - i).toNat i) + (if outB B G (gs G) m = true then cnF (fun j => gQ B G m j && decide (j < q)) else 0)
  | 0, i, w, _, h, _ => by
    have : (cml B G (upto 0 i)).length = 0 := rfl
    omega
  | n + 1, i, w, i0, h, hx => by
    have hcm : cml B G (upto (n + 1) i) = cm1 B G i ++ cml B G (upto n (i + 1)) := by
      show (i :: upto n (i + 1)).flatMap (cm1 B G) = _
      rw [List.flatMap_cons]
      rfl
    have hlen := cm1_len (B := B) (G := G) i
    rw [← mvN1_out hB] at hlen
    rw [hcm] at h hx
    rw [List.length_append] at h
    by_cases hw : w < (cm1 B G i).length
    · rw [List.getD_eq_getElem?_getD, List.getElem?_append_left hw] at hx
      cases e : outB B G (gs G) i with
      | false =>
        unfold cm1 at hw
        rw [e, if_neg (by decide)] at hw
        exact absurd hw (Nat.not_lt_zero _)
      | true =>
        unfold cm1 at hw hx
        rw [if_pos e] at hw hx
        rw [List.length_map] at hw
        rw [List.getElem?_map, List.getElem?_eq_getElem hw] at hx
        have hx : (i, ((pls.filter (gQ B G i))[w]'hw)) = (m, q) := hx
        have hx1 : i = m := congrArg Prod.fst hx
        have hx2 : ((pls.filter (gQ B G i))[w]'hw) = q := congrArg Prod.snd hx
        subst hx1
        have hf := fil_lt (gQ B G i) 25 0 w q hw (by
          show (pls.filter (gQ B G i)).getD w 0 = q
          rw [List.getD_eq_getElem?_getD, List.getElem?_eq_getElem hw]
          exact hx2)
        refine ⟨by omega, by omega, ?_⟩
        rw [show (i - i).toNat = 0 by omega, if_pos e]
        show (w : Int) = 0 + cnF _
        rw [Int.zero_add]
        show (w : Int) = (((upto 25 0).filter (fun j => gQ B G i j && decide (j < q))).length : Int)
        rw [hf]
    · rw [List.getD_eq_getElem?_getD, List.getElem?_append_right (by omega), ← List.getD_eq_getElem?_getD] at hx
      obtain ⟨a1, a2, a3⟩ := psn_cml hB n (i + 1) (w - (cm1 B G i).length) (by omega) (by omega) hx
      refine ⟨by omega, by omega, ?_⟩
      have hu : smL (mvN1 B G) (upto (m - i).toNat i) = mvN1 B G i + smL (mvN1 B G) (upto (m - (i + 1)).toNat (i + 1)) := by
        rw [show (m - i).toNat = (m - (i + 1)).toNat + 1 by omega]
        simp only [upto, smL]
      rw [hu]
      omega
/-- a choice stands in the row of moves at its own number -/
def CI (l : List (Int × Int)) (A : CA) : Prop := A.2.2.1 = (l.length : Int) ∧ (A.1 = -1 ∨ (0 ≤ A.1 ∧ A.1 < (l.length : Int) ∧ l[A.1.toNat]? = some (A.2.2.2.1, A.2.2.2.2)))
theorem CI_step {l : List (Int × Int)} {A : CA} (h : CI l A) (v : Int) (x : Int × Int) : CI (l ++ [x]) (cput A v x.1 x.2) := by
  obtain ⟨h1, h2⟩ := h
  have hl : ((l ++ [x]).length : Int) = (l.length : Int) + 1 := by rw [List.length_append]; rfl
  unfold cput
  split
  · refine ⟨by show A.2.2.1 + 1 = _; omega, Or.inr ⟨by show 0 ≤ A.2.2.1; omega, by show A.2.2.1 < _; omega, ?_⟩⟩
    show (l ++ [x])[A.2.2.1.toNat]? = some (x.1, x.2)
    rw [h1, List.getElem?_append_right (by omega), show ((l.length : Int)).toNat - l.length = 0 by omega]
    rfl
  · refine ⟨by show A.2.2.1 + 1 = _; omega, ?_⟩
    rcases h2 with e | ⟨a, b, c⟩
    · exact Or.inl e
    · refine Or.inr ⟨a, by show A.1 < _; omega, ?_⟩
      show (l ++ [x])[A.1.toNat]? = _
      rw [List.getElem?_append_left (by omega)]
      exact c
theorem CI_fold (f : Int × Int → Int) : ∀ (r l : List (Int × Int)) (A : CA), CI l A → CI (l ++ r) (r.foldl (fun A x => cput A (f x) x.1 x.2) A)
  | [], l, A, h => by rw [List.append_nil]; exact h
  | x :: r, l, A, h => by
    have := CI_fold f r (l ++ [x]) _ (CI_step h (f x) x)
    rw [List.append_assoc] at this
    exact this
theorem best_psn {B : Brd} (hB : Bv B) {G : Gam} (d : Int) : (bestA B d G).1 = -1 ∨ (0 ≤ (bestA B d G).2.2.2.1 ∧ (bestA B d G).2.2.2.1 < bM B ∧ 0 ≤ p5 B (bestA B d G).2.2.2.2 ∧ p5 B (bestA B d G).2.2.2.2 < 25 ∧ (bestA B d G).1 = psn B G (bestA B d G).2.2.2.1 (p5 B (bestA B d G).2.2.2.2)) := by
  have hM0 : 0 ≤ bM B := hB.1.1.2.2.2.2.2.2.1
  unfold bestA cb
  cases hc : ct B G with
  | true => rw [if_pos rfl]; exact Or.inl rfl
  | false =>
    rw [if_neg (by decide), cfold]
    have hci := CI_fold (fun x => -(val B (d - 1).toNat (mvK B G x.1 x.2))) (mvl B G) [] (-1, 0, 0, 0, 0) ⟨rfl, Or.inl rfl⟩
    rw [List.nil_append] at hci
    generalize (mvl B G).foldl (fun A x => cput A (-(val B (d - 1).toNat (mvK B G x.1 x.2))) x.1 x.2) (-1, 0, 0, 0, 0) = A at *
    rcases hci.2 with e | ⟨a, b, c⟩
    · exact Or.inl e
    · have hmem := mvl_mem hM0 (List.mem_of_getElem? c)
      have hp := (p5_x hB hmem.2.2.1 hmem.2.2.2.1).2.2
      refine Or.inr ⟨hmem.1, hmem.2.1, hp.1, hp.2, ?_⟩
      have hlen : (cml B G (mens B)).length = (mvl B G).length := by rw [cml_mv hB, List.length_map]
      have hw := psn_cml hB (G := G) (m := A.2.2.2.1) (q := p5 B A.2.2.2.2) (bM B).toNat 0 A.1.toNat (by omega) (by show _ < (cml B G (mens B)).length; omega) (by
        show (cml B G (mens B)).getD A.1.toNat (0, 0) = _
        rw [cml_mv hB, List.getD_eq_getElem?_getD, List.getElem?_map, c]
        rfl)
      have h3 := hw.2.2
      rw [Int.sub_zero] at h3
      unfold psn
      omega
theorem c_numBest {B : Brd} {G : Gam} {o p : Nat} {s : ST} (h : GA B G o p s) (hs : GS G o s) (d : Int) : f_X3_numberOf o (Int32.ofInt (mvC B (bestA B d G))) s = some (Int32.ofInt (bestA B d G).1, s) := by
  have hM : bM B ≤ 8 := h.1.1.1.1.2.2.2.2.2.2.2.1
  rcases best_psn h.1.1 (G := G) d with e | ⟨a, b, c, e, f⟩
  · unfold mvC f_X3_numberOf
    rw [if_pos e, e]
    simp (disch := omega) only [n_i8, n_i16, n_0, n_31, n_add, n_sub, n_mul, n_neg, n_div, n_rem, n_le_t, n_le_f, n_lt_t, n_lt_f, n_eq_t, n_eq_f, n_cl, n_gd, n_gdt, n_nz, Int.reduceToNat, Int.reduceAdd, Int.reduceSub, Int.reduceMul, Int.reduceNeg, Int.reduceLT, Int.reduceLE, Int.reduceEq, Int.reduceDiv, Int.reduceMod, Nat.reduceAdd, Nat.reduceMul, ↓reduceIte, u_eq, u_no, u_nk, u_ek, u_2, u_3, j_1, j_3, j_eq, j_no, j_nk, ltd, bnd]
  · by_cases e1 : (bestA B d G).1 = -1
    · unfold mvC f_X3_numberOf
      rw [if_pos e1, e1]
      simp (disch := omega) only [n_i8, n_i16, n_0, n_31, n_add, n_sub, n_mul, n_neg, n_div, n_rem, n_le_t, n_le_f, n_lt_t, n_lt_f, n_eq_t, n_eq_f, n_cl, n_gd, n_gdt, n_nz, Int.reduceToNat, Int.reduceAdd, Int.reduceSub, Int.reduceMul, Int.reduceNeg, Int.reduceLT, Int.reduceLE, Int.reduceEq, Int.reduceDiv, Int.reduceMod, Nat.reduceAdd, Nat.reduceMul, ↓reduceIte, u_eq, u_no, u_nk, u_ek, u_2, u_3, j_1, j_3, j_eq, j_no, j_nk, ltd, bnd]
    · have hn := c_num h hs a b c e
      unfold mvC
      rw [if_neg e1, hn, ← f]
