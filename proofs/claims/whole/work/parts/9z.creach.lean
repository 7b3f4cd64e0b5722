/-! L3: places read off the tape, reached, on of the class -/
theorem any_last (f : Int → Bool) : ∀ (n : Nat) (i : Int), (upto (n + 1) i).any f = ((upto n i).any f || f (i + n))
  | 0, i => by
    rw [show upto (0 + 1) i = [i] from rfl, show upto 0 i = [] from rfl, show i + ((0 : Nat) : Int) = i by omega]
    simp only [List.any_cons, List.any_nil, Bool.or_false, Bool.false_or]
  | n + 1, i => by
    have h := any_last f n (i + 1)
    rw [show upto (n + 1 + 1) i = i :: upto (n + 1) (i + 1) from rfl, show upto (n + 1) i = i :: upto n (i + 1) from rfl, List.any_cons, List.any_cons, h, show i + 1 + (n : Int) = i + ((n + 1 : Nat) : Int) by omega, Bool.or_assoc]
def hdF (T : Int → Int) (fr i q : Int) : Bool := (upto i.toNat 0).any (fun k => tpM T fr k (q % 5) (q / 5))
theorem c_places_L {B : Brd} {G : Gam} {brd : Bool} {p : Nat} {T : Int → Int} {n fr : Int} (f0 : 0 ≤ fr) (hn : fr + 2 * bM B ≤ n) : ∀ (c F : Nat) (i : Int) (s : ST), CQ B G brd p s → CT T n s → 0 ≤ i → (c : Int) = bM B - i → c < F → (∀ m : Int, 0 ≤ m → m < i → s.1 63 m.toNat = Int32.ofInt (paL (axT T fr) (ayT T fr) m)) → ∃ s', f_X9_readPlaces_L4 F (Int32.ofInt fr) (bmk (hdF T fr i)) (Int32.ofInt i) s = some (bI ((upto c i).all (menB B T fr)), s') ∧ ((upto c i).all (menB B T fr) = true → ∀ m : Int, 0 ≤ m → m < bM B → s'.1 63 m.toNat = Int32.ofInt (paL (axT T fr) (ayT T fr) m)) ∧ (∀ a k : Nat, ¬ a = 63 → s'.1 a k = s.1 a k) ∧ s'.2 = s.2 := by
  intro c
  induction c with
  | zero =>
    intro F i s h hT i0 hc hF ha
    obtain ⟨F, rfl⟩ : ∃ F', F = F' + 1 := ⟨F - 1, by omega⟩
    have hA := h.1.1.1
    have hp := hA.2.1.2
    have hP := h.2.1.1
    have hM8 : bM B ≤ 8 := hA.1.1.1.1.2.2.2.2.2.2.2.1
    have c8 : s.1 p 8 = Int32.ofInt (bM B) := hA.2.2.2.1.1.2.2.2.1
    refine ⟨s, ?_, fun _ m m0 m1 => ha m m0 (by omega), fun _ _ _ => rfl, rfl⟩
    simp (disch := omega) only [f_X9_readPlaces_L4, hP, c8, upto, List.all_nil, bI_t, g_kk, g_k1, g_n1, g_k2, g_n2, g_k3, g_n3, g_k4, g_n4, g_k5, g_n5, g_k7, g_n7, g_k8, g_n8, g_k9, g_n9, g_k6, g_r3, g_r4, g_r5, g_r6, g_r7, g_r10, g_q0, g_q1, g_q2, p_kk, p_k1, p_n1, p_k2, p_n2, p_k3, p_n3, p_k4, p_n4, p_k5, p_n5, p_k6, p_n6, p_k7, p_n7, p_k8, p_n8, p_k9, p_n9, p_k10, p_n10, p_k11, p_n11, p_k13, p_n13, p_k12, p_r2, p_r4, p_r5, p_r6, p_r7, p_r9, p_r10, p_r11, p_r13, p_r14, p_r15, p_r16, p_h0, n_i8, n_i16, n_0, n_31, n_add, n_sub, n_mul, n_neg, n_div, n_rem, n_le_t, n_le_f, n_lt_t, n_lt_f, n_eq_t, n_eq_f, n_cl, n_gd, n_gdt, n_nz, Int.reduceToNat, Int.reduceAdd, Int.reduceSub, Int.reduceMul, Int.reduceNeg, Int.reduceLT, Int.reduceLE, Int.reduceEq, Int.reduceDiv, Int.reduceMod, Nat.reduceAdd, Nat.reduceMul, ↓reduceIte, u_eq, u_no, u_nk, u_ek, u_2, u_3, j_1, j_3, j_eq, j_no, j_nk, ltd, bnd]
  | succ c ih =>
    intro F i s h hT i0 hc hF ha
    obtain ⟨F, rfl⟩ : ∃ F', F = F' + 1 := ⟨F - 1, by omega⟩
    have hA := h.1.1.1
    have hB := hA.1.1
    have hp := hA.2.1.2
    have hP := h.2.1.1
    have hM8 : bM B ≤ 8 := hB.1.1.2.2.2.2.2.2.2.1
    have hW5 : bW B ≤ 5 := hB.1.1.2.1
    have hH5 : bH B ≤ 5 := hB.1.1.2.2.2.1
    have c8 : s.1 p 8 = Int32.ofInt (bM B) := hA.2.2.2.1.1.2.2.2.1
    have b1 := c_byteAt hT (k := fr + 2 * i) (by omega) (by omega)
    have b2 := c_byteAt hT (k := fr + 2 * i + 1) (by omega) (by omega)
    have t1 := (hT.2.2 (fr + 2 * i) (by omega) (by omega)).2
    have t2 := (hT.2.2 (fr + 2 * i + 1) (by omega) (by omega)).2
    have hnn := hT.2.1
    simp only [upto, List.all_cons]
    have hmB : menB B T fr i = if T (fr + 2 * i) = 255 ∧ T (fr + 2 * i + 1) = 255 then true else decide (T (fr + 2 * i) < bW B) && (decide (T (fr + 2 * i + 1) < bH B) && !(upto i.toNat 0).any (fun k => tpM T fr k (T (fr + 2 * i)) (T (fr + 2 * i + 1)))) := rfl
    have hpa : paL (axT T fr) (ayT T fr) i = if unb (T (fr + 2 * i)) = -1 then -1 else 5 * unb (T (fr + 2 * i + 1)) + unb (T (fr + 2 * i)) := rfl
    have htp : ∀ a b : Int, tpM T fr i a b = decide (T (fr + 2 * i) = a ∧ T (fr + 2 * i + 1) = b) := fun _ _ => rfl
    have hla : ∀ q : Int, hdF T fr (i + 1) q = (hdF T fr i q || decide (T (fr + 2 * i) = q % 5 ∧ T (fr + 2 * i + 1) = q / 5)) := by
      intro q
      unfold hdF
      rw [show (i + 1).toNat = i.toNat + 1 by omega, any_last, show (0 : Int) + (i.toNat : Int) = i by omega, htp]
    by_cases e : T (fr + 2 * i) = 255 ∧ T (fr + 2 * i + 1) = 255
    · have hub : unb 255 = -1 := by unfold unb; rw [if_pos rfl]
      rw [if_pos e] at hmB
      rw [e.1, hub, if_pos rfl] at hpa
      rw [hmB, Bool.true_and]
      have hbm : bmk (hdF T fr (i + 1)) = bmk (hdF T fr i) := bmk_congr (fun q q0 q1 => by
        rw [hla q, decide_eq_false (by omega), Bool.or_false])
      obtain ⟨s', q1, q2, q3, q4⟩ := ih F (i + 1) (uI s 63 i.toNat (Int32.ofInt (-1))) (CQ_x h (fun a k x => u_no (by omega)) rfl) (CT_fr hT (u_no (by omega)) (fun k => u_no (by omega))) (by omega) (by omega) (by omega) (fun m m0 m1 => by
        by_cases x : m = i
        · rw [x, u_eq, hpa]
        · rw [u_nk (by omega)]; exact ha m m0 (by omega))
      refine ⟨s', ?_, q2, fun a k x => (q3 a k x).trans (u_no x), q4⟩
      rw [hbm] at q1
      rw [← q1, f_X9_readPlaces_L4]
      rw [e.1] at b1
      rw [e.2] at b2
      simp (disch := omega) only [hP, c8, b1, b2, g_kk, g_k1, g_n1, g_k2, g_n2, g_k3, g_n3, g_k4, g_n4, g_k5, g_n5, g_k7, g_n7, g_k8, g_n8, g_k9, g_n9, g_k6, g_r3, g_r4, g_r5, g_r6, g_r7, g_r10, g_q0, g_q1, g_q2, p_kk, p_k1, p_n1, p_k2, p_n2, p_k3, p_n3, p_k4, p_n4, p_k5, p_n5, p_k6, p_n6, p_k7, p_n7, p_k8, p_n8, p_k9, p_n9, p_k10, p_n10, p_k11, p_n11, p_k13, p_n13, p_k12, p_r2, p_r4, p_r5, p_r6, p_r7, p_r9, p_r10, p_r11, p_r13, p_r14, p_r15, p_r16, p_h0, n_i8, n_i16, n_0, n_31, n_add, n_sub, n_mul, n_neg, n_div, n_rem, n_le_t, n_le_f, n_lt_t, n_lt_f, n_eq_t, n_eq_f, n_cl, n_gd, n_gdt, n_nz, Int.reduceToNat, Int.reduceAdd, Int.reduceSub, Int.reduceMul, Int.reduceNeg, Int.reduceLT, Int.reduceLE, Int.reduceEq, Int.reduceDiv, Int.reduceMod, Nat.reduceAdd, Nat.reduceMul, ↓reduceIte, u_eq, u_no, u_nk, u_ek, u_2, u_3, j_1, j_3, j_eq, j_no, j_nk, ltd, bnd]
    · rw [if_neg e] at hmB
      have hpl := c_isPlace hB hp hA.2.2.2.1 (x := T (fr + 2 * i)) (y := T (fr + 2 * i + 1)) (by omega) (by omega) (by omega) (by omega)
      -- behind the two bytes: not both 255
      have hj : f_X9_readPlaces_L4 (F + 1) (Int32.ofInt fr) (bmk (hdF T fr i)) (Int32.ofInt i) s = f_X9_readPlaces_j71 (f_X9_readPlaces_L4 F) (Int32.ofInt fr) (bmk (hdF T fr i)) (Int32.ofInt i) (Int32.ofInt (T (fr + 2 * i))) (Int32.ofInt (T (fr + 2 * i + 1))) s := by
        rw [f_X9_readPlaces_L4]
        by_cases x : T (fr + 2 * i) = 255
        · have y : ¬ T (fr + 2 * i + 1) = 255 := fun y => e ⟨x, y⟩
          rw [x] at b1 ⊢
          simp (disch := omega) only [hP, c8, b1, b2, g_kk, g_k1, g_n1, g_k2, g_n2, g_k3, g_n3, g_k4, g_n4, g_k5, g_n5, g_k7, g_n7, g_k8, g_n8, g_k9, g_n9, g_k6, g_r3, g_r4, g_r5, g_r6, g_r7, g_r10, g_q0, g_q1, g_q2, p_kk, p_k1, p_n1, p_k2, p_n2, p_k3, p_n3, p_k4, p_n4, p_k5, p_n5, p_k6, p_n6, p_k7, p_n7, p_k8, p_n8, p_k9, p_n9, p_k10, p_n10, p_k11, p_n11, p_k13, p_n13, p_k12, p_r2, p_r4, p_r5, p_r6, p_r7, p_r9, p_r10, p_r11, p_r13, p_r14, p_r15, p_r16, p_h0, n_i8, n_i16, n_0, n_31, n_add, n_sub, n_mul, n_neg, n_div, n_rem, n_le_t, n_le_f, n_lt_t, n_lt_f, n_eq_t, n_eq_f, n_cl, n_gd, n_gdt, n_nz, Int.reduceToNat, Int.reduceAdd, Int.reduceSub, Int.reduceMul, Int.reduceNeg, Int.reduceLT, Int.reduceLE, Int.reduceEq, Int.reduceDiv, Int.reduceMod, Nat.reduceAdd, Nat.reduceMul, ↓reduceIte, u_eq, u_no, u_nk, u_ek, u_2, u_3, j_1, j_3, j_eq, j_no, j_nk, ltd, bnd]
        · simp (disch := omega) only [hP, c8, b1, b2, g_kk, g_k1, g_n1, g_k2, g_n2, g_k3, g_n3, g_k4, g_n4, g_k5, g_n5, g_k7, g_n7, g_k8, g_n8, g_k9, g_n9, g_k6, g_r3, g_r4, g_r5, g_r6, g_r7, g_r10, g_q0, g_q1, g_q2, p_kk, p_k1, p_n1, p_k2, p_n2, p_k3, p_n3, p_k4, p_n4, p_k5, p_n5, p_k6, p_n6, p_k7, p_n7, p_k8, p_n8, p_k9, p_n9, p_k10, p_n10, p_k11, p_n11, p_k13, p_n13, p_k12, p_r2, p_r4, p_r5, p_r6, p_r7, p_r9, p_r10, p_r11, p_r13, p_r14, p_r15, p_r16, p_h0, n_i8, n_i16, n_0, n_31, n_add, n_sub, n_mul, n_neg, n_div, n_rem, n_le_t, n_le_f, n_lt_t, n_lt_f, n_eq_t, n_eq_f, n_cl, n_gd, n_gdt, n_nz, Int.reduceToNat, Int.reduceAdd, Int.reduceSub, Int.reduceMul, Int.reduceNeg, Int.reduceLT, Int.reduceLE, Int.reduceEq, Int.reduceDiv, Int.reduceMod, Nat.reduceAdd, Nat.reduceMul, ↓reduceIte, u_eq, u_no, u_nk, u_ek, u_2, u_3, j_1, j_3, j_eq, j_no, j_nk, ltd, bnd]
      rw [hj]
      by_cases x : (0 ≤ T (fr + 2 * i) ∧ T (fr + 2 * i) < bW B) ∧ (0 ≤ T (fr + 2 * i + 1) ∧ T (fr + 2 * i + 1) < bH B)
      · rw [decide_eq_true x] at hpl
        rw [decide_eq_true x.1.2, decide_eq_true x.2.2, Bool.true_and, Bool.true_and] at hmB
        have hux : unb (T (fr + 2 * i)) = T (fr + 2 * i) := by unfold unb; rw [if_neg (by omega)]
        have huy : unb (T (fr + 2 * i + 1)) = T (fr + 2 * i + 1) := by unfold unb; rw [if_neg (by omega)]
        rw [hux, huy, if_neg (by omega)] at hpa
        have q0 : 0 ≤ T (fr + 2 * i + 1) * 5 + T (fr + 2 * i) := by omega
        have q1 : T (fr + 2 * i + 1) * 5 + T (fr + 2 * i) < 25 := by omega
        have hbit := bit_q (hdF T fr i) q0 q1
        have hsh := shl_q q0 q1
        have hhd : hdF T fr i (T (fr + 2 * i + 1) * 5 + T (fr + 2 * i)) = (upto i.toNat 0).any (fun k => tpM T fr k (T (fr + 2 * i)) (T (fr + 2 * i + 1))) := by
          unfold hdF
          rw [show (T (fr + 2 * i + 1) * 5 + T (fr + 2 * i)) % 5 = T (fr + 2 * i) by omega, show (T (fr + 2 * i + 1) * 5 + T (fr + 2 * i)) / 5 = T (fr + 2 * i + 1) by omega]
        rw [← hhd] at hmB
        cases y : hdF T fr i (T (fr + 2 * i + 1) * 5 + T (fr + 2 * i)) with
        | true =>
          rw [y] at hmB hbit
          rw [hmB, Bool.not_true, Bool.false_and]
          refine ⟨s, ?_, fun z => (by cases z), fun _ _ _ => rfl, rfl⟩
          simp (disch := omega) only [f_X9_readPlaces_j71, hP, hpl, hbit, bI_t, bI_f, g_kk, g_k1, g_n1, g_k2, g_n2, g_k3, g_n3, g_k4, g_n4, g_k5, g_n5, g_k7, g_n7, g_k8, g_n8, g_k9, g_n9, g_k6, g_r3, g_r4, g_r5, g_r6, g_r7, g_r10, g_q0, g_q1, g_q2, p_kk, p_k1, p_n1, p_k2, p_n2, p_k3, p_n3, p_k4, p_n4, p_k5, p_n5, p_k6, p_n6, p_k7, p_n7, p_k8, p_n8, p_k9, p_n9, p_k10, p_n10, p_k11, p_n11, p_k13, p_n13, p_k12, p_r2, p_r4, p_r5, p_r6, p_r7, p_r9, p_r10, p_r11, p_r13, p_r14, p_r15, p_r16, p_h0, n_i8, n_i16, n_0, n_31, n_add, n_sub, n_mul, n_neg, n_div, n_rem, n_le_t, n_le_f, n_lt_t, n_lt_f, n_eq_t, n_eq_f, n_cl, n_gd, n_gdt, n_nz, Int.reduceToNat, Int.reduceAdd, Int.reduceSub, Int.reduceMul, Int.reduceNeg, Int.reduceLT, Int.reduceLE, Int.reduceEq, Int.reduceDiv, Int.reduceMod, Nat.reduceAdd, Nat.reduceMul, ↓reduceIte, u_eq, u_no, u_nk, u_ek, u_2, u_3, j_1, j_3, j_eq, j_no, j_nk, ltd, bnd]
        | false =>
          rw [y] at hmB hbit
          rw [hmB, Bool.not_false, Bool.true_and]
          have hbm : bmk (hdF T fr i) ||| bmk (fun j => decide (j = T (fr + 2 * i + 1) * 5 + T (fr + 2 * i))) = bmk (hdF T fr (i + 1)) := by
            rw [bmk_or]
            refine bmk_congr (fun q z0 z1 => ?_)
            rw [hla q, show decide (q = T (fr + 2 * i + 1) * 5 + T (fr + 2 * i)) = decide (T (fr + 2 * i) = q % 5 ∧ T (fr + 2 * i + 1) = q / 5) from decide_eq_decide.mpr (by omega)]
          obtain ⟨s', w1, w2, w3, w4⟩ := ih F (i + 1) (uI s 63 i.toNat (Int32.ofInt (T (fr + 2 * i + 1) * 5 + T (fr + 2 * i)))) (CQ_x h (fun a k x => u_no (by omega)) rfl) (CT_fr hT (u_no (by omega)) (fun k => u_no (by omega))) (by omega) (by omega) (by omega) (fun m m0 m1 => by
            by_cases z : m = i
            · rw [z, u_eq, hpa, show 5 * T (fr + 2 * i + 1) + T (fr + 2 * i) = T (fr + 2 * i + 1) * 5 + T (fr + 2 * i) by omega]
            · rw [u_nk (by omega)]; exact ha m m0 (by omega))
          refine ⟨s', ?_, w2, fun a k z => (w3 a k z).trans (u_no z), w4⟩
          rw [← w1]
          simp (disch := omega) only [f_X9_readPlaces_j71, hP, hpl, hbit, hsh, hbm, bI_t, bI_f, g_kk, g_k1, g_n1, g_k2, g_n2, g_k3, g_n3, g_k4, g_n4, g_k5, g_n5, g_k7, g_n7, g_k8, g_n8, g_k9, g_n9, g_k6, g_r3, g_r4, g_r5, g_r6, g_r7, g_r10, g_q0, g_q1, g_q2, p_kk, p_k1, p_n1, p_k2, p_n2, p_k3, p_n3, p_k4, p_n4, p_k5, p_n5, p_k6, p_n6, p_k7, p_n7, p_k8, p_n8, p_k9, p_n9, p_k10, p_n10, p_k11, p_n11, p_k13, p_n13, p_k12, p_r2, p_r4, p_r5, p_r6, p_r7, p_r9, p_r10, p_r11, p_r13, p_r14, p_r15, p_r16, p_h0, n_i8, n_i16, n_0, n_31, n_add, n_sub, n_mul, n_neg, n_div, n_rem, n_le_t, n_le_f, n_lt_t, n_lt_f, n_eq_t, n_eq_f, n_cl, n_gd, n_gdt, n_nz, Int.reduceToNat, Int.reduceAdd, Int.reduceSub, Int.reduceMul, Int.reduceNeg, Int.reduceLT, Int.reduceLE, Int.reduceEq, Int.reduceDiv, Int.reduceMod, Nat.reduceAdd, Nat.reduceMul, ↓reduceIte, u_eq, u_no, u_nk, u_ek, u_2, u_3, j_1, j_3, j_eq, j_no, j_nk, ltd, bnd]
      · rw [decide_eq_false x] at hpl
        have hmf : menB B T fr i = false := by
          rw [hmB]
          by_cases y : T (fr + 2 * i) < bW B
          · rw [decide_eq_true y, decide_eq_false (by omega : ¬ T (fr + 2 * i + 1) < bH B)]; rfl
          · rw [decide_eq_false y]; rfl
        rw [hmf, Bool.false_and]
        refine ⟨s, ?_, fun z => (by cases z), fun _ _ _ => rfl, rfl⟩
        simp (disch := omega) only [f_X9_readPlaces_j71, hP, hpl, bI_f, g_kk, g_k1, g_n1, g_k2, g_n2, g_k3, g_n3, g_k4, g_n4, g_k5, g_n5, g_k7, g_n7, g_k8, g_n8, g_k9, g_n9, g_k6, g_r3, g_r4, g_r5, g_r6, g_r7, g_r10, g_q0, g_q1, g_q2, p_kk, p_k1, p_n1, p_k2, p_n2, p_k3, p_n3, p_k4, p_n4, p_k5, p_n5, p_k6, p_n6, p_k7, p_n7, p_k8, p_n8, p_k9, p_n9, p_k10, p_n10, p_k11, p_n11, p_k13, p_n13, p_k12, p_r2, p_r4, p_r5, p_r6, p_r7, p_r9, p_r10, p_r11, p_r13, p_r14, p_r15, p_r16, p_h0, n_i8, n_i16, n_0, n_31, n_add, n_sub, n_mul, n_neg, n_div, n_rem, n_le_t, n_le_f, n_lt_t, n_lt_f, n_eq_t, n_eq_f, n_cl, n_gd, n_gdt, n_nz, Int.reduceToNat, Int.reduceAdd, Int.reduceSub, Int.reduceMul, Int.reduceNeg, Int.reduceLT, Int.reduceLE, Int.reduceEq, Int.reduceDiv, Int.reduceMod, Nat.reduceAdd, Nat.reduceMul, ↓reduceIte, u_eq, u_no, u_nk, u_ek, u_2, u_3, j_1, j_3, j_eq, j_no, j_nk, ltd, bnd]
theorem c_places {B : Brd} {G : Gam} {brd : Bool} {p : Nat} {T : Int → Int} {n fr : Int} {s : ST} (h : CQ B G brd p s) (hT : CT T n s) (f0 : 0 ≤ fr) (hn : fr + 2 * bM B ≤ n) : ∃ s', f_X9_readPlaces (Int32.ofInt fr) s = some (bI (areM B T fr), s') ∧ (areM B T fr = true → AM B (axT T fr) (ayT T fr) s') ∧ (∀ a k : Nat, ¬ a = 63 → s'.1 a k = s.1 a k) ∧ s'.2 = s.2 := by
  have hM0 : 0 ≤ bM B := h.1.1.1.1.1.1.1.2.2.2.2.2.2.1
  have hM8 : bM B ≤ 8 := h.1.1.1.1.1.1.1.2.2.2.2.2.2.2.1
  have hb0 : bmk (hdF T fr 0) = Int32.ofInt 0 := by
    rw [← bmk_no]
    exact bmk_congr (fun q _ _ => rfl)
  obtain ⟨s', q1, q2, q3, q4⟩ := c_places_L f0 hn (bM B).toNat fuel 0 s h hT (by omega) (by omega) (by unfold fuel; omega) (fun m m0 m1 => by omega)
  rw [hb0] at q1
  exact ⟨s', q1, q2, q3, q4⟩
theorem areM_ok {B : Brd} {T : Int → Int} {fr : Int} (hB : Bv B) (hb : ∀ m : Int, 0 ≤ m → m < bM B → (0 ≤ T (fr + 2 * m) ∧ T (fr + 2 * m) ≤ 255) ∧ (0 ≤ T (fr + 2 * m + 1) ∧ T (fr + 2 * m + 1) ≤ 255)) (h : areM B T fr = true) : AOk B (axT T fr) (ayT T fr) := by
  have hM0 : 0 ≤ bM B := hB.1.1.2.2.2.2.2.2.1
  have hW5 : bW B ≤ 5 := hB.1.1.2.1
  have hH5 : bH B ≤ 5 := hB.1.1.2.2.2.1
  intro m m0 m1
  have hm := List.all_eq_true.mp h m ((mem_mens hM0).mpr ⟨m0, m1⟩)
  have hbm := hb m m0 m1
  unfold menB at hm
  unfold axT ayT unb
  by_cases e : T (fr + 2 * m) = 255 ∧ T (fr + 2 * m + 1) = 255
  · left; rw [if_pos e.1, if_pos e.2]; exact ⟨rfl, rfl⟩
  · rw [if_neg e] at hm
    rw [Bool.and_eq_true, Bool.and_eq_true] at hm
    have a := of_decide_eq_true hm.1
    have b := of_decide_eq_true hm.2.1
    right
    rw [if_neg (by omega), if_neg (by omega)]
    omega
theorem c_reached {B : Brd} {G : Gam} {brd : Bool} {p : Nat} {T : Int → Int} {n : Int} {s : ST} (h : CQ B G brd p s) (hT : CT T n s) {z : Int} (z1 : -2147483648 ≤ z) (z2 : z ≤ 2147483647) : (rchOK B brd T n z → ∃ s', f_X9_reached (Int32.ofInt z) s = some (Int32.ofInt (wys B (axT T 0) (ayT T 0) z.toNat G), s') ∧ CQ B G brd p s' ∧ s'.1 1 1 = Int32.ofInt 0 ∧ (∀ a k : Nat, ¬ (36 ≤ a ∧ a ≤ 45) → ¬ a = 63 → ¬ (a = 1 ∧ k = 1) → s'.1 a k = s.1 a k) ∧ s'.2 = s.2) ∧ (¬ rchOK B brd T n z → ∃ s1, f_X9_reached (Int32.ofInt z) s = some (Int32.ofInt (-1), crf (uI s1 1 1 (Int32.ofInt 0)) 1) ∧ (∀ a k : Nat, ¬ a = 63 → s1.1 a k = s.1 a k) ∧ s1.2 = s.2) := by
  have ht := c_isTold h
  have h1 := hT.1
  have hn := hT.2.1
  have hA := h.1.1.1
  have hB := hA.1.1
  have hp := hA.2.1.2
  have hP := h.2.1.1
  have hM8 : bM B ≤ 8 := hB.1.1.2.2.2.2.2.2.2.1
  have hM0 : 0 ≤ bM B := hB.1.1.2.2.2.2.2.2.1
  have c8 : s.1 p 8 = Int32.ofInt (bM B) := hA.2.2.2.1.1.2.2.2.1
  have href := fun s1 : ST => c_refuse (s := uI s1 1 1 (Int32.ofInt 0)) (j := 1) (by omega) (by omega)
  have hno : ∀ (x1 : Int32) (s1 : ST), f_X9_reached_j47 x1 s1 = some (Int32.ofInt (-1), crf (uI s1 1 1 (Int32.ofInt 0)) 1) := by
    intro x1 s1
    have href := href s1
    simp (disch := omega) only [f_X9_reached_j47, f_X9_reached_j48, href, n_i8, n_i16, n_0, n_31, n_add, n_sub, n_mul, n_neg, n_div, n_rem, n_le_t, n_le_f, n_lt_t, n_lt_f, n_eq_t, n_eq_f, n_cl, n_gd, n_gdt, n_nz, Int.reduceToNat, Int.reduceAdd, Int.reduceSub, Int.reduceMul, Int.reduceNeg, Int.reduceLT, Int.reduceLE, Int.reduceEq, Int.reduceDiv, Int.reduceMod, Nat.reduceAdd, Nat.reduceMul, ↓reduceIte, u_eq, u_no, u_nk, u_ek, u_2, u_3, j_1, j_3, j_eq, j_no, j_nk, ltd, bnd]
  unfold rchOK
  cases brd with
  | false =>
    refine ⟨fun x => by simp at x, fun _ => ⟨s, ?_, fun _ _ _ => rfl, rfl⟩⟩
    simp (disch := omega) only [f_X9_reached, ht, hno, bI_f, n_i8, n_i16, n_0, n_31, n_add, n_sub, n_mul, n_neg, n_div, n_rem, n_le_t, n_le_f, n_lt_t, n_lt_f, n_eq_t, n_eq_f, n_cl, n_gd, n_gdt, n_nz, Int.reduceToNat, Int.reduceAdd, Int.reduceSub, Int.reduceMul, Int.reduceNeg, Int.reduceLT, Int.reduceLE, Int.reduceEq, Int.reduceDiv, Int.reduceMod, Nat.reduceAdd, Nat.reduceMul, ↓reduceIte, u_eq, u_no, u_nk, u_ek, u_2, u_3, j_1, j_3, j_eq, j_no, j_nk, ltd, bnd]
  | true =>
    by_cases e1 : z < 0
    · refine ⟨fun x => by omega, fun _ => ⟨s, ?_, fun _ _ _ => rfl, rfl⟩⟩
      simp (disch := omega) only [f_X9_reached, ht, hno, bI_t, n_i8, n_i16, n_0, n_31, n_add, n_sub, n_mul, n_neg, n_div, n_rem, n_le_t, n_le_f, n_lt_t, n_lt_f, n_eq_t, n_eq_f, n_cl, n_gd, n_gdt, n_nz, Int.reduceToNat, Int.reduceAdd, Int.reduceSub, Int.reduceMul, Int.reduceNeg, Int.reduceLT, Int.reduceLE, Int.reduceEq, Int.reduceDiv, Int.reduceMod, Nat.reduceAdd, Nat.reduceMul, ↓reduceIte, u_eq, u_no, u_nk, u_ek, u_2, u_3, j_1, j_3, j_eq, j_no, j_nk, ltd, bnd]
    by_cases e2 : 3 < z
    · refine ⟨fun x => by omega, fun _ => ⟨s, ?_, fun _ _ _ => rfl, rfl⟩⟩
      simp (disch := omega) only [f_X9_reached, ht, hno, bI_t, n_i8, n_i16, n_0, n_31, n_add, n_sub, n_mul, n_neg, n_div, n_rem, n_le_t, n_le_f, n_lt_t, n_lt_f, n_eq_t, n_eq_f, n_cl, n_gd, n_gdt, n_nz, Int.reduceToNat, Int.reduceAdd, Int.reduceSub, Int.reduceMul, Int.reduceNeg, Int.reduceLT, Int.reduceLE, Int.reduceEq, Int.reduceDiv, Int.reduceMod, Nat.reduceAdd, Nat.reduceMul, ↓reduceIte, u_eq, u_no, u_nk, u_ek, u_2, u_3, j_1, j_3, j_eq, j_no, j_nk, ltd, bnd]
    by_cases e3 : n = 2 * bM B
    · obtain ⟨s1, a1, a2, a3, a4⟩ := c_places h hT (fr := 0) (by omega) (by omega)
      cases e : areM B T 0 with
      | true =>
        rw [e] at a1
        refine ⟨fun _ => ?_, fun x => absurd ⟨rfl, by omega, e3, rfl⟩ x⟩
        have hAO : AOk B (axT T 0) (ayT T 0) := areM_ok hB (fun m m0 m1 => ⟨(hT.2.2 (0 + 2 * m) (by omega) (by omega)).2, (hT.2.2 (0 + 2 * m + 1) (by omega) (by omega)).2⟩) e
        have hq : CQ B G true p (uI s1 1 1 (Int32.ofInt 0)) := CQ_x h (fun a k x => by rw [u_no (by omega), a3 a k (by omega)]) a4
        have hAM : AM B (axT T 0) (ayT T 0) (uI s1 1 1 (Int32.ofInt 0)) := fun m m0 m1 => by rw [u_no (by omega)]; exact a2 e m m0 m1
        obtain ⟨s2, b1, b2, b3⟩ := c_ways (B := B) (o := 36) (p := p) hAO 6 z.toNat G _ (by omega) (by omega) hq.1.1.1 hAM
        rw [show ((z.toNat : Nat) : Int) = z by omega] at b1
        have b1 : t_X3_waysTo 36 63 (Int32.ofInt (gs G)) (Int32.ofInt z) (uI s1 1 1 (Int32.ofInt 0)) = _ := b1
        have hS := hq.1.1.2.1
        unfold GS at hS
        refine ⟨s2, ?_, CQ_Fm hq b2 b3, ?_, fun a k x y w => ?_, b3.2.trans a4⟩
        · simp (disch := omega) only [f_X9_reached, f_X9_reached_j48, ht, h1, hP, c8, e3, a1, b1, hS, bI_t, g_kk, g_k1, g_n1, g_k2, g_n2, g_k3, g_n3, g_k4, g_n4, g_k5, g_n5, g_k7, g_n7, g_k8, g_n8, g_k9, g_n9, g_k6, g_r3, g_r4, g_r5, g_r6, g_r7, g_r10, g_q0, g_q1, g_q2, p_kk, p_k1, p_n1, p_k2, p_n2, p_k3, p_n3, p_k4, p_n4, p_k5, p_n5, p_k6, p_n6, p_k7, p_n7, p_k8, p_n8, p_k9, p_n9, p_k10, p_n10, p_k11, p_n11, p_k13, p_n13, p_k12, p_r2, p_r4, p_r5, p_r6, p_r7, p_r9, p_r10, p_r11, p_r13, p_r14, p_r15, p_r16, p_h0, n_i8, n_i16, n_0, n_31, n_add, n_sub, n_mul, n_neg, n_div, n_rem, n_le_t, n_le_f, n_lt_t, n_lt_f, n_eq_t, n_eq_f, n_cl, n_gd, n_gdt, n_nz, Int.reduceToNat, Int.reduceAdd, Int.reduceSub, Int.reduceMul, Int.reduceNeg, Int.reduceLT, Int.reduceLE, Int.reduceEq, Int.reduceDiv, Int.reduceMod, Nat.reduceAdd, Nat.reduceMul, ↓reduceIte, ltd, bnd]
        · rw [b3.1 1 1 (by omega) (by omega) (by omega) (by omega), u_eq]
        · rw [b3.1 a k (by omega) (by omega) (by omega) (by omega), ua, if_neg w, a3 a k y]
      | false =>
        rw [e] at a1
        refine ⟨fun x => (by have := x.2.2.2; cases this), fun _ => ⟨s1, ?_, a3, a4⟩⟩
        simp (disch := omega) only [f_X9_reached, ht, h1, hP, c8, e3, a1, hno, bI_t, bI_f, g_kk, g_k1, g_n1, g_k2, g_n2, g_k3, g_n3, g_k4, g_n4, g_k5, g_n5, g_k7, g_n7, g_k8, g_n8, g_k9, g_n9, g_k6, g_r3, g_r4, g_r5, g_r6, g_r7, g_r10, g_q0, g_q1, g_q2, p_kk, p_k1, p_n1, p_k2, p_n2, p_k3, p_n3, p_k4, p_n4, p_k5, p_n5, p_k6, p_n6, p_k7, p_n7, p_k8, p_n8, p_k9, p_n9, p_k10, p_n10, p_k11, p_n11, p_k13, p_n13, p_k12, p_r2, p_r4, p_r5, p_r6, p_r7, p_r9, p_r10, p_r11, p_r13, p_r14, p_r15, p_r16, p_h0, n_i8, n_i16, n_0, n_31, n_add, n_sub, n_mul, n_neg, n_div, n_rem, n_le_t, n_le_f, n_lt_t, n_lt_f, n_eq_t, n_eq_f, n_cl, n_gd, n_gdt, n_nz, Int.reduceToNat, Int.reduceAdd, Int.reduceSub, Int.reduceMul, Int.reduceNeg, Int.reduceLT, Int.reduceLE, Int.reduceEq, Int.reduceDiv, Int.reduceMod, Nat.reduceAdd, Nat.reduceMul, ↓reduceIte, u_eq, u_no, u_nk, u_ek, u_2, u_3, j_1, j_3, j_eq, j_no, j_nk, ltd, bnd]
    · refine ⟨fun x => by omega, fun _ => ⟨s, ?_, fun _ _ _ => rfl, rfl⟩⟩
      simp (disch := omega) only [f_X9_reached, ht, h1, hP, c8, hno, bI_t, g_kk, g_k1, g_n1, g_k2, g_n2, g_k3, g_n3, g_k4, g_n4, g_k5, g_n5, g_k7, g_n7, g_k8, g_n8, g_k9, g_n9, g_k6, g_r3, g_r4, g_r5, g_r6, g_r7, g_r10, g_q0, g_q1, g_q2, p_kk, p_k1, p_n1, p_k2, p_n2, p_k3, p_n3, p_k4, p_n4, p_k5, p_n5, p_k6, p_n6, p_k7, p_n7, p_k8, p_n8, p_k9, p_n9, p_k10, p_n10, p_k11, p_n11, p_k13, p_n13, p_k12, p_r2, p_r4, p_r5, p_r6, p_r7, p_r9, p_r10, p_r11, p_r13, p_r14, p_r15, p_r16, p_h0, n_i8, n_i16, n_0, n_31, n_add, n_sub, n_mul, n_neg, n_div, n_rem, n_le_t, n_le_f, n_lt_t, n_lt_f, n_eq_t, n_eq_f, n_cl, n_gd, n_gdt, n_nz, Int.reduceToNat, Int.reduceAdd, Int.reduceSub, Int.reduceMul, Int.reduceNeg, Int.reduceLT, Int.reduceLE, Int.reduceEq, Int.reduceDiv, Int.reduceMod, Nat.reduceAdd, Nat.reduceMul, ↓reduceIte, u_eq, u_no, u_nk, u_ek, u_2, u_3, j_1, j_3, j_eq, j_no, j_nk, ltd, bnd]
theorem c_imgM_L {T : Int → Int} {n N x1 : Int} {s : ST} (hT : CT T n s) (hN : N ≤ n) (K : Int32 → Int32 → Int32 → ST → Option (Int32 × ST)) : ∀ (m F : Nat) (i c : Int), 0 ≤ i → (m : Int) = N - i → m < F → 0 ≤ c → c ≤ 250 → f_X9_isImage_L73 K F (Int32.ofInt x1) (Int32.ofInt N) (Int32.ofInt c) (Int32.ofInt i) s = K (Int32.ofInt x1) (Int32.ofInt N) (Int32.ofInt (((upto m i).map T).foldl (fun c v => (3 * c + v) % 251) c)) s := by
  have hn := hT.2.1
  intro m
  induction m with
  | zero =>
    intro F i c i0 hm hF c0 c1
    obtain ⟨F, rfl⟩ : ∃ F', F = F' + 1 := ⟨F - 1, by omega⟩
    simp (disch := omega) only [f_X9_isImage_L73, upto, List.map_nil, List.foldl_nil, n_i8, n_i16, n_0, n_31, n_add, n_sub, n_mul, n_neg, n_div, n_rem, n_le_t, n_le_f, n_lt_t, n_lt_f, n_eq_t, n_eq_f, n_cl, n_gd, n_gdt, n_nz, Int.reduceToNat, Int.reduceAdd, Int.reduceSub, Int.reduceMul, Int.reduceNeg, Int.reduceLT, Int.reduceLE, Int.reduceEq, Int.reduceDiv, Int.reduceMod, Nat.reduceAdd, Nat.reduceMul, ↓reduceIte, u_eq, u_no, u_nk, u_ek, u_2, u_3, j_1, j_3, j_eq, j_no, j_nk, ltd, bnd]
  | succ m ih =>
    intro F i c i0 hm hF c0 c1
    obtain ⟨F, rfl⟩ : ∃ F', F = F' + 1 := ⟨F - 1, by omega⟩
    have hb := c_byteAt hT (k := i) i0 (by omega)
    have ht := (hT.2.2 i i0 (by omega)).2
    have hmk := c_marked c0 c1 ht.1 ht.2 s
    simp only [upto, List.map_cons, List.foldl_cons]
    rw [← ih F (i + 1) _ (by omega) (by omega) (by omega) (by omega) (by omega), f_X9_isImage_L73]
    simp (disch := omega) only [hb, hmk, n_i8, n_i16, n_0, n_31, n_add, n_sub, n_mul, n_neg, n_div, n_rem, n_le_t, n_le_f, n_lt_t, n_lt_f, n_eq_t, n_eq_f, n_cl, n_gd, n_gdt, n_nz, Int.reduceToNat, Int.reduceAdd, Int.reduceSub, Int.reduceMul, Int.reduceNeg, Int.reduceLT, Int.reduceLE, Int.reduceEq, Int.reduceDiv, Int.reduceMod, Nat.reduceAdd, Nat.reduceMul, ↓reduceIte, u_eq, u_no, u_nk, u_ek, u_2, u_3, j_1, j_3, j_eq, j_no, j_nk, ltd, bnd]
theorem c_imgF_L {B : Brd} {G : Gam} {brd : Bool} {p : Nat} {T : Int → Int} {n : Int} {s : ST} (h : CQ B G brd p s) (hT : CT T n s) (hn : 3 + 2 * bM B + 2 * bF B ≤ n) (K : Int32 → Int32 → ST → Option (Int32 × ST)) (x2 x3 : Int32) : ∀ (m F : Nat) (i : Int), 0 ≤ i → (m : Int) = bF B - i → m < F → f_X9_isImage_L102 K F (Int32.ofInt (3 + 2 * bM B)) x2 x3 (Int32.ofInt i) s = if (upto m i).all (fldB B T) = true then K x2 x3 s else some (Int32.ofInt 0, s) := by
  have hA := h.1.1.1
  have hB := hA.1.1
  have hp := hA.2.1.2
  have hP := h.2.1.1
  have hF6 : bF B ≤ 6 := hB.1.1.2.2.2.2.2.2.2.2.2
  have hM8 : bM B ≤ 8 := hB.1.1.2.2.2.2.2.2.2.1
  have hM0 : 0 ≤ bM B := hB.1.1.2.2.2.2.2.2.1
  have c12 : s.1 p 12 = Int32.ofInt (bF B) := hA.2.2.2.1.1.2.2.2.2.1
  intro m
  induction m with
  | zero =>
    intro F i i0 hm hF
    obtain ⟨F, rfl⟩ : ∃ F', F = F' + 1 := ⟨F - 1, by omega⟩
    rw [show (upto 0 i).all (fldB B T) = true from rfl, if_pos rfl]
    simp (disch := omega) only [f_X9_isImage_L102, hP, c12, g_kk, g_k1, g_n1, g_k2, g_n2, g_k3, g_n3, g_k4, g_n4, g_k5, g_n5, g_k7, g_n7, g_k8, g_n8, g_k9, g_n9, g_k6, g_r3, g_r4, g_r5, g_r6, g_r7, g_r10, g_q0, g_q1, g_q2, p_kk, p_k1, p_n1, p_k2, p_n2, p_k3, p_n3, p_k4, p_n4, p_k5, p_n5, p_k6, p_n6, p_k7, p_n7, p_k8, p_n8, p_k9, p_n9, p_k10, p_n10, p_k11, p_n11, p_k13, p_n13, p_k12, p_r2, p_r4, p_r5, p_r6, p_r7, p_r9, p_r10, p_r11, p_r13, p_r14, p_r15, p_r16, p_h0, n_i8, n_i16, n_0, n_31, n_add, n_sub, n_mul, n_neg, n_div, n_rem, n_le_t, n_le_f, n_lt_t, n_lt_f, n_eq_t, n_eq_f, n_cl, n_gd, n_gdt, n_nz, Int.reduceToNat, Int.reduceAdd, Int.reduceSub, Int.reduceMul, Int.reduceNeg, Int.reduceLT, Int.reduceLE, Int.reduceEq, Int.reduceDiv, Int.reduceMod, Nat.reduceAdd, Nat.reduceMul, ↓reduceIte, u_eq, u_no, u_nk, u_ek, u_2, u_3, j_1, j_3, j_eq, j_no, j_nk, ltd, bnd]
  | succ m ih =>
    intro F i i0 hm hF
    obtain ⟨F, rfl⟩ : ∃ F', F = F' + 1 := ⟨F - 1, by omega⟩
    have hpa := c_pairAt hT (k := 3 + 2 * bM B + 2 * i) (by omega) (by omega)
    have t1 := (hT.2.2 (3 + 2 * bM B + 2 * i) (by omega) (by omega)).2
    have t2 := (hT.2.2 (3 + 2 * bM B + 2 * i + 1) (by omega) (by omega)).2
    have hfb : fldB B T i = decide (256 * T (3 + 2 * bM B + 2 * i) + T (3 + 2 * bM B + 2 * i + 1) ≤ 999) := rfl
    simp only [upto, List.all_cons]
    by_cases e : 256 * T (3 + 2 * bM B + 2 * i) + T (3 + 2 * bM B + 2 * i + 1) ≤ 999
    · have hff : fldB B T i = true := by rw [hfb, decide_eq_true e]
      simp only [hff, Bool.true_and]
      rw [← ih F (i + 1) (by omega) (by omega) (by omega), f_X9_isImage_L102]
      simp (disch := omega) only [hP, c12, hpa, g_kk, g_k1, g_n1, g_k2, g_n2, g_k3, g_n3, g_k4, g_n4, g_k5, g_n5, g_k7, g_n7, g_k8, g_n8, g_k9, g_n9, g_k6, g_r3, g_r4, g_r5, g_r6, g_r7, g_r10, g_q0, g_q1, g_q2, p_kk, p_k1, p_n1, p_k2, p_n2, p_k3, p_n3, p_k4, p_n4, p_k5, p_n5, p_k6, p_n6, p_k7, p_n7, p_k8, p_n8, p_k9, p_n9, p_k10, p_n10, p_k11, p_n11, p_k13, p_n13, p_k12, p_r2, p_r4, p_r5, p_r6, p_r7, p_r9, p_r10, p_r11, p_r13, p_r14, p_r15, p_r16, p_h0, n_i8, n_i16, n_0, n_31, n_add, n_sub, n_mul, n_neg, n_div, n_rem, n_le_t, n_le_f, n_lt_t, n_lt_f, n_eq_t, n_eq_f, n_cl, n_gd, n_gdt, n_nz, Int.reduceToNat, Int.reduceAdd, Int.reduceSub, Int.reduceMul, Int.reduceNeg, Int.reduceLT, Int.reduceLE, Int.reduceEq, Int.reduceDiv, Int.reduceMod, Nat.reduceAdd, Nat.reduceMul, ↓reduceIte, u_eq, u_no, u_nk, u_ek, u_2, u_3, j_1, j_3, j_eq, j_no, j_nk, ltd, bnd]
    · have hff : fldB B T i = false := by rw [hfb, decide_eq_false e]
      simp only [hff, Bool.false_and, Bool.false_eq_true, ↓reduceIte]
      simp (disch := omega) only [f_X9_isImage_L102, hP, c12, hpa, g_kk, g_k1, g_n1, g_k2, g_n2, g_k3, g_n3, g_k4, g_n4, g_k5, g_n5, g_k7, g_n7, g_k8, g_n8, g_k9, g_n9, g_k6, g_r3, g_r4, g_r5, g_r6, g_r7, g_r10, g_q0, g_q1, g_q2, p_kk, p_k1, p_n1, p_k2, p_n2, p_k3, p_n3, p_k4, p_n4, p_k5, p_n5, p_k6, p_n6, p_k7, p_n7, p_k8, p_n8, p_k9, p_n9, p_k10, p_n10, p_k11, p_n11, p_k13, p_n13, p_k12, p_r2, p_r4, p_r5, p_r6, p_r7, p_r9, p_r10, p_r11, p_r13, p_r14, p_r15, p_r16, p_h0, n_i8, n_i16, n_0, n_31, n_add, n_sub, n_mul, n_neg, n_div, n_rem, n_le_t, n_le_f, n_lt_t, n_lt_f, n_eq_t, n_eq_f, n_cl, n_gd, n_gdt, n_nz, Int.reduceToNat, Int.reduceAdd, Int.reduceSub, Int.reduceMul, Int.reduceNeg, Int.reduceLT, Int.reduceLE, Int.reduceEq, Int.reduceDiv, Int.reduceMod, Nat.reduceAdd, Nat.reduceMul, ↓reduceIte, u_eq, u_no, u_nk, u_ek, u_2, u_3, j_1, j_3, j_eq, j_no, j_nk, ltd, bnd]
def imC (B : Brd) (T : Int → Int) (n : Int) : Prop := n = 3 + 2 * bM B + 2 * bF B + 1 ∧ T (n - 1) = mrk (bytes T (n - 1)) ∧ 256 * T 0 + T 1 ≤ 999 ∧ T 2 ≤ 1 ∧ (flds B).all (fldB B T) = true
theorem c_isImage {B : Brd} {G : Gam} {brd : Bool} {p : Nat} {T : Int → Int} {n : Int} {s : ST} (h : CQ B G brd p s) (hT : CT T n s) : (imC B T n → f_X9_isImage s = some (Int32.ofInt 1, s)) ∧ (¬ imC B T n → f_X9_isImage s = some (Int32.ofInt 0, s)) := by
  have hA := h.1.1.1
  have hB := hA.1.1
  have hp := hA.2.1.2
  have hP := h.2.1.1
  have h1 := hT.1
  have hn := hT.2.1
  have hF6 : bF B ≤ 6 := hB.1.1.2.2.2.2.2.2.2.2.2
  have hF0 : 0 ≤ bF B := hB.1.1.2.2.2.2.2.2.2.2.1
  have hM8 : bM B ≤ 8 := hB.1.1.2.2.2.2.2.2.2.1
  have hM0 : 0 ≤ bM B := hB.1.1.2.2.2.2.2.2.1
  have c12 : s.1 p 12 = Int32.ofInt (bF B) := hA.2.2.2.1.1.2.2.2.2.1
  have c8 : s.1 p 8 = Int32.ofInt (bM B) := hA.2.2.2.1.1.2.2.2.1
  unfold imC
  by_cases e1 : n = 3 + 2 * bM B + 2 * bF B + 1
  · rw [e1] at h1
    have t0 := (hT.2.2 0 (by omega) (by omega)).2
    have t1 := (hT.2.2 1 (by omega) (by omega)).2
    have t2 := (hT.2.2 2 (by omega) (by omega)).2
    have tm := (hT.2.2 (3 + 2 * bM B + 2 * bF B) (by omega) (by omega)).2
    have b0 := c_pairAt hT (k := 0) (by omega) (by omega)
    rw [show (0 : Int) + 1 = 1 from rfl] at b0
    have b2 := c_byteAt hT (k := 2) (by omega) (by omega)
    have bm := c_byteAt hT (k := 3 + 2 * bM B + 2 * bF B) (by omega) (by omega)
    have hs := c_isSide (t := T 2) (by omega) (by omega) s
    by_cases e2 : 256 * T 0 + T 1 ≤ 999
    · by_cases e3 : T 2 ≤ 1
      · rw [decide_eq_true (by omega)] at hs
        have hmk := c_imgM_L hT (N := 3 + 2 * bM B + 2 * bF B) (x1 := 3 + 2 * bM B) (by omega) f_X9_isImage_j99 (3 + 2 * bM B + 2 * bF B).toNat fuel 0 59 (by omega) (by omega) (by unfold fuel; omega) (by omega) (by omega)
        have hmr : ((upto (3 + 2 * bM B + 2 * bF B).toNat 0).map T).foldl (fun c v => (3 * c + v) % 251) 59 = mrk (bytes T (3 + 2 * bM B + 2 * bF B)) := rfl
        rw [hmr] at hmk
        have hmb : 0 ≤ mrk (bytes T (3 + 2 * bM B + 2 * bF B)) ∧ mrk (bytes T (3 + 2 * bM B + 2 * bF B)) ≤ 250 := by
          have key : ∀ (l : List Int) (c : Int), 0 ≤ c → c ≤ 250 → 0 ≤ l.foldl (fun c v => (3 * c + v) % 251) c ∧ l.foldl (fun c v => (3 * c + v) % 251) c ≤ 250 := by
            intro l
            induction l with
            | nil => intro c a b; exact ⟨a, b⟩
            | cons v l ih => intro c a b; rw [List.foldl_cons]; exact ih _ (by omega) (by omega)
          exact key _ 59 (by omega) (by omega)
        rw [show n - 1 = 3 + 2 * bM B + 2 * bF B by omega]
        generalize mrk (bytes T (3 + 2 * bM B + 2 * bF B)) = w at *
        have hfl := c_imgF_L h hT (by omega) f_X9_isImage_j141 (Int32.ofInt (3 + 2 * bM B + 2 * bF B)) (Int32.ofInt w) (bF B).toNat fuel 0 (by omega) (by omega) (by unfold fuel; omega)
        have hfe : (upto (bF B).toNat 0).all (fldB B T) = (flds B).all (fldB B T) := rfl
        rw [hfe] at hfl
        have hj : f_X9_isImage s = if (flds B).all (fldB B T) = true then f_X9_isImage_j141 (Int32.ofInt (3 + 2 * bM B + 2 * bF B)) (Int32.ofInt w) s else some (Int32.ofInt 0, s) := by
          rw [← hfl]
          simp (disch := omega) only [f_X9_isImage, hP, c8, c12, h1, b0, b2, hs, hmk, f_X9_isImage_j99, bI_t, g_kk, g_k1, g_n1, g_k2, g_n2, g_k3, g_n3, g_k4, g_n4, g_k5, g_n5, g_k7, g_n7, g_k8, g_n8, g_k9, g_n9, g_k6, g_r3, g_r4, g_r5, g_r6, g_r7, g_r10, g_q0, g_q1, g_q2, p_kk, p_k1, p_n1, p_k2, p_n2, p_k3, p_n3, p_k4, p_n4, p_k5, p_n5, p_k6, p_n6, p_k7, p_n7, p_k8, p_n8, p_k9, p_n9, p_k10, p_n10, p_k11, p_n11, p_k13, p_n13, p_k12, p_r2, p_r4, p_r5, p_r6, p_r7, p_r9, p_r10, p_r11, p_r13, p_r14, p_r15, p_r16, p_h0, n_i8, n_i16, n_0, n_31, n_add, n_sub, n_mul, n_neg, n_div, n_rem, n_le_t, n_le_f, n_lt_t, n_lt_f, n_eq_t, n_eq_f, n_cl, n_gd, n_gdt, n_nz, Int.reduceToNat, Int.reduceAdd, Int.reduceSub, Int.reduceMul, Int.reduceNeg, Int.reduceLT, Int.reduceLE, Int.reduceEq, Int.reduceDiv, Int.reduceMod, Nat.reduceAdd, Nat.reduceMul, ↓reduceIte, u_eq, u_no, u_nk, u_ek, u_2, u_3, j_1, j_3, j_eq, j_no, j_nk, ltd, bnd]
        by_cases e4 : (flds B).all (fldB B T) = true
        · rw [if_pos e4] at hj
          by_cases e5 : T (3 + 2 * bM B + 2 * bF B) = w
          · refine ⟨fun _ => ?_, fun x => absurd ⟨e1, e5, e2, e3, e4⟩ x⟩
            rw [hj]
            rw [e5] at bm
            simp (disch := omega) only [f_X9_isImage_j141, bm, n_i8, n_i16, n_0, n_31, n_add, n_sub, n_mul, n_neg, n_div, n_rem, n_le_t, n_le_f, n_lt_t, n_lt_f, n_eq_t, n_eq_f, n_cl, n_gd, n_gdt, n_nz, Int.reduceToNat, Int.reduceAdd, Int.reduceSub, Int.reduceMul, Int.reduceNeg, Int.reduceLT, Int.reduceLE, Int.reduceEq, Int.reduceDiv, Int.reduceMod, Nat.reduceAdd, Nat.reduceMul, ↓reduceIte, u_eq, u_no, u_nk, u_ek, u_2, u_3, j_1, j_3, j_eq, j_no, j_nk, ltd, bnd]
          · refine ⟨fun x => absurd x.2.1 e5, fun _ => ?_⟩
            rw [hj]
            simp (disch := omega) only [f_X9_isImage_j141, bm, n_i8, n_i16, n_0, n_31, n_add, n_sub, n_mul, n_neg, n_div, n_rem, n_le_t, n_le_f, n_lt_t, n_lt_f, n_eq_t, n_eq_f, n_cl, n_gd, n_gdt, n_nz, Int.reduceToNat, Int.reduceAdd, Int.reduceSub, Int.reduceMul, Int.reduceNeg, Int.reduceLT, Int.reduceLE, Int.reduceEq, Int.reduceDiv, Int.reduceMod, Nat.reduceAdd, Nat.reduceMul, ↓reduceIte, u_eq, u_no, u_nk, u_ek, u_2, u_3, j_1, j_3, j_eq, j_no, j_nk, ltd, bnd]
        · rw [if_neg e4] at hj
          exact ⟨fun x => absurd x.2.2.2.2 e4, fun _ => hj⟩
      · rw [decide_eq_false (by omega)] at hs
        refine ⟨fun x => absurd x.2.2.2.1 e3, fun _ => ?_⟩
        simp (disch := omega) only [f_X9_isImage, hP, c8, c12, h1, b0, b2, hs, bI_f, g_kk, g_k1, g_n1, g_k2, g_n2, g_k3, g_n3, g_k4, g_n4, g_k5, g_n5, g_k7, g_n7, g_k8, g_n8, g_k9, g_n9, g_k6, g_r3, g_r4, g_r5, g_r6, g_r7, g_r10, g_q0, g_q1, g_q2, p_kk, p_k1, p_n1, p_k2, p_n2, p_k3, p_n3, p_k4, p_n4, p_k5, p_n5, p_k6, p_n6, p_k7, p_n7, p_k8, p_n8, p_k9, p_n9, p_k10, p_n10, p_k11, p_n11, p_k13, p_n13, p_k12, p_r2, p_r4, p_r5, p_r6, p_r7, p_r9, p_r10, p_r11, p_r13, p_r14, p_r15, p_r16, p_h0, n_i8, n_i16, n_0, n_31, n_add, n_sub, n_mul, n_neg, n_div, n_rem, n_le_t, n_le_f, n_lt_t, n_lt_f, n_eq_t, n_eq_f, n_cl, n_gd, n_gdt, n_nz, Int.reduceToNat, Int.reduceAdd, Int.reduceSub, Int.reduceMul, Int.reduceNeg, Int.reduceLT, Int.reduceLE, Int.reduceEq, Int.reduceDiv, Int.reduceMod, Nat.reduceAdd, Nat.reduceMul, ↓reduceIte, u_eq, u_no, u_nk, u_ek, u_2, u_3, j_1, j_3, j_eq, j_no, j_nk, ltd, bnd]
    · refine ⟨fun x => absurd x.2.2.1 e2, fun _ => ?_⟩
      simp (disch := omega) only [f_X9_isImage, hP, c8, c12, h1, b0, g_kk, g_k1, g_n1, g_k2, g_n2, g_k3, g_n3, g_k4, g_n4, g_k5, g_n5, g_k7, g_n7, g_k8, g_n8, g_k9, g_n9, g_k6, g_r3, g_r4, g_r5, g_r6, g_r7, g_r10, g_q0, g_q1, g_q2, p_kk, p_k1, p_n1, p_k2, p_n2, p_k3, p_n3, p_k4, p_n4, p_k5, p_n5, p_k6, p_n6, p_k7, p_n7, p_k8, p_n8, p_k9, p_n9, p_k10, p_n10, p_k11, p_n11, p_k13, p_n13, p_k12, p_r2, p_r4, p_r5, p_r6, p_r7, p_r9, p_r10, p_r11, p_r13, p_r14, p_r15, p_r16, p_h0, n_i8, n_i16, n_0, n_31, n_add, n_sub, n_mul, n_neg, n_div, n_rem, n_le_t, n_le_f, n_lt_t, n_lt_f, n_eq_t, n_eq_f, n_cl, n_gd, n_gdt, n_nz, Int.reduceToNat, Int.reduceAdd, Int.reduceSub, Int.reduceMul, Int.reduceNeg, Int.reduceLT, Int.reduceLE, Int.reduceEq, Int.reduceDiv, Int.reduceMod, Nat.reduceAdd, Nat.reduceMul, ↓reduceIte, u_eq, u_no, u_nk, u_ek, u_2, u_3, j_1, j_3, j_eq, j_no, j_nk, ltd, bnd]
  · refine ⟨fun x => absurd x.1 e1, fun _ => ?_⟩
    simp (disch := omega) only [f_X9_isImage, hP, c8, c12, h1, g_kk, g_k1, g_n1, g_k2, g_n2, g_k3, g_n3, g_k4, g_n4, g_k5, g_n5, g_k7, g_n7, g_k8, g_n8, g_k9, g_n9, g_k6, g_r3, g_r4, g_r5, g_r6, g_r7, g_r10, g_q0, g_q1, g_q2, p_kk, p_k1, p_n1, p_k2, p_n2, p_k3, p_n3, p_k4, p_n4, p_k5, p_n5, p_k6, p_n6, p_k7, p_n7, p_k8, p_n8, p_k9, p_n9, p_k10, p_n10, p_k11, p_n11, p_k13, p_n13, p_k12, p_r2, p_r4, p_r5, p_r6, p_r7, p_r9, p_r10, p_r11, p_r13, p_r14, p_r15, p_r16, p_h0, n_i8, n_i16, n_0, n_31, n_add, n_sub, n_mul, n_neg, n_div, n_rem, n_le_t, n_le_f, n_lt_t, n_lt_f, n_eq_t, n_eq_f, n_cl, n_gd, n_gdt, n_nz, Int.reduceToNat, Int.reduceAdd, Int.reduceSub, Int.reduceMul, Int.reduceNeg, Int.reduceLT, Int.reduceLE, Int.reduceEq, Int.reduceDiv, Int.reduceMod, Nat.reduceAdd, Nat.reduceMul, ↓reduceIte, u_eq, u_no, u_nk, u_ek, u_2, u_3, j_1, j_3, j_eq, j_no, j_nk, ltd, bnd]
