/-! L3: chance, undo, seed of the class -/
theorem bv_of {m : Nat} (h : m < 18446744073709551616) : (BitVec.ofInt 64 (m : Int)).toNat = m := by
  rw [BitVec.toNat_ofInt]
  show ((m : Int) % 18446744073709551616).toNat = m
  omega
theorem l_and31 {z : Int} (h0 : 0 ≤ z) (h1 : z ≤ 9223372036854775807) : Int64.ofInt z &&& Int64.ofInt 2147483647 = Int64.ofInt (z % 2147483648) := by
  obtain ⟨n, rfl⟩ : ∃ n : Nat, z = (n : Int) := ⟨z.toNat, by omega⟩
  have e : ((n : Int) % 2147483648) = ((n % 2147483648 : Nat) : Int) := by omega
  rw [e]
  apply Int64.toBitVec.inj
  apply BitVec.eq_of_toNat_eq
  show (BitVec.ofInt 64 (n : Int) &&& BitVec.ofInt 64 ((2147483647 : Nat) : Int)).toNat = (BitVec.ofInt 64 ((n % 2147483648 : Nat) : Int)).toNat
  rw [BitVec.toNat_and, bv_of (by omega), bv_of (by omega), bv_of (by omega)]
  exact Nat.and_two_pow_sub_one_eq_mod n 31
theorem c_draw {x m : Int} {s : ST} (h : s.1 0 12 = Int32.ofInt x) (x0 : 0 ≤ x) (x1 : x < 2147483648) (m1 : 0 < m) (m2 : m ≤ 1000) : f_X9_draw (Int32.ofInt m) s = some (Int32.ofInt (drw x m), uI s 0 12 (Int32.ofInt (rnd x))) := by
  have hr := rnd_b x
  have hand := l_and31 (z := 1103515245 * x + 12345) (by omega) (by omega)
  have hrn : (1103515245 * x + 12345) % 2147483648 = rnd x := rfl
  rw [hrn] at hand
  unfold drw
  generalize rnd x = y at *
  have hx : (Int32.ofInt x).toInt64 = Int64.ofInt x := l_i (by omega) (by omega)
  simp (disch := omega) only [f_X9_draw, h, hx, l_mul, l_add, hand, l_j, n_i8, n_i16, n_0, n_31, n_add, n_sub, n_mul, n_neg, n_div, n_rem, n_le_t, n_le_f, n_lt_t, n_lt_f, n_eq_t, n_eq_f, n_cl, n_gd, n_gdt, n_nz, Int.reduceToNat, Int.reduceAdd, Int.reduceSub, Int.reduceMul, Int.reduceNeg, Int.reduceLT, Int.reduceLE, Int.reduceEq, Int.reduceDiv, Int.reduceMod, Nat.reduceAdd, Nat.reduceMul, ↓reduceIte, u_eq, u_no, u_nk, u_ek, u_2, u_3, j_1, j_3, j_eq, j_no, j_nk, ltd, bnd]
theorem c_chance_L {B : Brd} {brd : Bool} {p : Nat} (hb : brd = true) {N : Int} (N1 : N ≤ 30) : ∀ (c F : Nat) (i : Int) (r : Gam × List Ent × Int × Int) (s : ST), CQ B r.1 brd p s → CK r.2.1 s → s.1 0 12 = Int32.ofInt r.2.2.1 → (0 ≤ r.2.2.1 ∧ r.2.2.1 < 2147483648) → (r.2.1.length : Int) ≤ gd_ r.1 → gd_ r.1 + c ≤ 999 → 0 ≤ i → (c : Int) = N - i → c < F → ∃ s', f_X9_chance_L32 F (Int32.ofInt N) (Int32.ofInt r.2.2.2) (Int32.ofInt i) s = some (Int32.ofInt (chN B c r).2.2.2, s') ∧ CQ B (chN B c r).1 brd p s' ∧ CK (chN B c r).2.1 s' ∧ s'.1 0 12 = Int32.ofInt (chN B c r).2.2.1 ∧ ((chN B c r).2.1.length : Int) ≤ gd_ (chN B c r).1 ∧ r.2.1 <+: (chN B c r).2.1 ∧ (∀ a k : Nat, ¬ (36 ≤ a ∧ a ≤ 45) → ¬ a = 57 → ¬ (a = 56 ∧ k = 1) → ¬ (a = 0 ∧ k = 12) → s'.1 a k = s.1 a k) ∧ s'.2 = s.2 := by
  intro c
  induction c with
  | zero =>
    intro F i r s h hK hx hx2 hl hd i0 hc hF
    obtain ⟨F, rfl⟩ : ∃ F', F = F' + 1 := ⟨F - 1, by omega⟩
    refine ⟨s, ?_, h, hK, hx, hl, List.prefix_refl _, fun _ _ _ _ _ _ => rfl, rfl⟩
    rw [show chN B 0 r = r from rfl]
    simp (disch := omega) only [f_X9_chance_L32, n_i8, n_i16, n_0, n_31, n_add, n_sub, n_mul, n_neg, n_div, n_rem, n_le_t, n_le_f, n_lt_t, n_lt_f, n_eq_t, n_eq_f, n_cl, n_gd, n_gdt, n_nz, Int.reduceToNat, Int.reduceAdd, Int.reduceSub, Int.reduceMul, Int.reduceNeg, Int.reduceLT, Int.reduceLE, Int.reduceEq, Int.reduceDiv, Int.reduceMod, Nat.reduceAdd, Nat.reduceMul, ↓reduceIte, u_eq, u_no, u_nk, u_ek, u_2, u_3, j_1, j_3, j_eq, j_no, j_nk, ltd, bnd]
  | succ c ih =>
    intro F i r s h hK hx hx2 hl hd i0 hc hF
    obtain ⟨F, rfl⟩ : ∃ F', F = F' + 1 := ⟨F - 1, by omega⟩
    have hB := h.1.1.1.1.1
    have hM0 : 0 ≤ bM B := hB.1.1.2.2.2.2.2.2.1
    have hp := h.1.1.1.2.1.2
    have hBd := (h.2.2.1 hb).1
    have hmc := c_moveCount h.1.1.1 h.1.1.2.1
    have hNb := mvN_b hB (G := r.1)
    have hov := mvN_ovr hB (G := r.1)
    have hcs : chS B r = (dayG B r.1 (chA B r.1 r.2.2.1).1, keepA B r.1 (chA B r.1 r.2.2.1).1 r.2.1, (chA B r.1 r.2.2.1).2.1, r.2.2.2 + (chA B r.1 r.2.2.1).2.2) := rfl
    rw [show chN B (c + 1) r = chN B c (chS B r) from rfl]
    have hP19 : s.1 p 19 = Int32.ofInt (bSl B) := h.1.1.1.2.2.2.1.1.2.2.2.2.2.2
    have hsl := hB.2.2.2.2.2
    -- a day by the best move, behind a state s0 that differs in the seed alone
    have best : ∀ (s0 : ST) (x' : Int), CQ B r.1 brd p s0 → CK r.2.1 s0 → s0.1 0 12 = Int32.ofInt x' → (∀ a k : Nat, ¬ (a = 0 ∧ k = 12) → s0.1 a k = s.1 a k) → s0.2 = s.2 → (0 ≤ x' ∧ x' < 2147483648) → chA B r.1 r.2.2.1 = (todA B (-1) 0 r.1, x', 0) → ∃ s', f_X9_chance_j91 (f_X9_chance_L32 F) (Int32.ofInt N) (Int32.ofInt r.2.2.2) (Int32.ofInt i) s0 = some (Int32.ofInt (chN B c (chS B r)).2.2.2, s') ∧ CQ B (chN B c (chS B r)).1 brd p s' ∧ CK (chN B c (chS B r)).2.1 s' ∧ s'.1 0 12 = Int32.ofInt (chN B c (chS B r)).2.2.1 ∧ ((chN B c (chS B r)).2.1.length : Int) ≤ gd_ (chN B c (chS B r)).1 ∧ r.2.1 <+: (chN B c (chS B r)).2.1 ∧ (∀ a k : Nat, ¬ (36 ≤ a ∧ a ≤ 45) → ¬ a = 57 → ¬ (a = 56 ∧ k = 1) → ¬ (a = 0 ∧ k = 12) → s'.1 a k = s.1 a k) ∧ s'.2 = s.2 := by
      intro s0 x' h0 hK0 hx0 hf0 h20 hxb hch
      rw [hch] at hcs
      have hde := c_depth h0.1.1 h0.1.2.2.1
      obtain ⟨s1, a1, a2, a3⟩ := c_today h0.1.1 hBd (ds := -1) (db := 0) (Or.inl rfl)
      have hq1 := CQ_Fm h0 a2.1 a3
      have hok : okA B r.1 (todA B (-1) 0 r.1) := okA_cb hB
      have hK1 : CK r.2.1 s1 := CK_fr hK0 (a3.1 56 1 (by omega) (by omega) (by omega) (by omega)) (fun k => a3.1 57 k (by omega) (by omega) (by omega) (by omega))
      obtain ⟨s2, b1, b2, b3, b4, b5⟩ := c_actDay hq1 hK1 hl (by omega) hok
      obtain ⟨s3, c1, c2, c3, c3b, c4, c5, c6, c7⟩ := ih F (i + 1) (chS B r) s2 (by rw [hcs]; exact b2) (by rw [hcs]; exact b3) (by rw [hcs, b4 0 12 (by omega) (by omega) (by omega), a3.1 0 12 (by omega) (by omega) (by omega) (by omega)]; exact hx0) (by rw [hcs]; exact hxb) (by rw [hcs]; exact keepA_len hl) (by rw [hcs]; show gd_ (dayG B r.1 (todA B (-1) 0 r.1)) + (c : Int) ≤ 999; rw [dayG_d]; omega) (by omega) (by omega) (by omega)
      refine ⟨s3, ?_, c2, c3, c3b, c4, (show r.2.1 <+: (chS B r).2.1 by rw [hcs]; exact keepA_pre B r.1 (todA B (-1) 0 r.1) r.2.1).trans c5, fun a k x y z w => by rw [c6 a k x y z w, b4 a k x y z, a3.1 a k (by omega) (by omega) (by omega) (by omega), hf0 a k w], c7.trans (b5.trans (a3.2.trans h20))⟩
      rw [← c1, hcs]
      simp (disch := omega) only [f_X9_chance_j91, hde, a1, b1, Int.add_zero, n_i8, n_i16, n_0, n_31, n_add, n_sub, n_mul, n_neg, n_div, n_rem, n_le_t, n_le_f, n_lt_t, n_lt_f, n_eq_t, n_eq_f, n_cl, n_gd, n_gdt, n_nz, Int.reduceToNat, Int.reduceAdd, Int.reduceSub, Int.reduceMul, Int.reduceNeg, Int.reduceLT, Int.reduceLE, Int.reduceEq, Int.reduceDiv, Int.reduceMod, Nat.reduceAdd, Nat.reduceMul, ↓reduceIte, u_eq, u_no, u_nk, u_ek, u_2, u_3, j_1, j_3, j_eq, j_no, j_nk, ltd, bnd]
    by_cases e0 : mvN B r.1 = 0
    · have hch : chA B r.1 r.2.2.1 = (todA B (-1) 0 r.1, r.2.2.1, 0) := by unfold chA; rw [if_pos (hov.mp e0)]
      obtain ⟨s', q1, q2⟩ := best s r.2.2.1 h hK hx (fun _ _ _ => rfl) rfl hx2 hch
      refine ⟨s', ?_, q2⟩
      rw [e0] at hmc
      rw [← q1, f_X9_chance_L32]
      simp (disch := omega) only [hmc, n_i8, n_i16, n_0, n_31, n_add, n_sub, n_mul, n_neg, n_div, n_rem, n_le_t, n_le_f, n_lt_t, n_lt_f, n_eq_t, n_eq_f, n_cl, n_gd, n_gdt, n_nz, Int.reduceToNat, Int.reduceAdd, Int.reduceSub, Int.reduceMul, Int.reduceNeg, Int.reduceLT, Int.reduceLE, Int.reduceEq, Int.reduceDiv, Int.reduceMod, Nat.reduceAdd, Nat.reduceMul, ↓reduceIte, u_eq, u_no, u_nk, u_ek, u_2, u_3, j_1, j_3, j_eq, j_no, j_nk, ltd, bnd]
    · have hnov : ¬ ovr B r.1 = true := fun z => e0 (hov.mpr z)
      have hd1 := c_draw (m := 100) hx hx2.1 hx2.2 (by omega) (by omega)
      have hrb := rnd_b r.2.2.1
      have hdb : 0 ≤ drw r.2.2.1 100 ∧ drw r.2.2.1 100 < 100 := by unfold drw; omega
      have hq1 : CQ B r.1 brd p (uI s 0 12 (Int32.ofInt (rnd r.2.2.1))) := CQ_x h (fun a k x => u_no (by omega)) rfl
      have hK1 : CK r.2.1 (uI s 0 12 (Int32.ofInt (rnd r.2.2.1))) := CK_fr hK (u_no (by omega)) (fun k => u_no (by omega))
      have hP3 := h.2.1.1
      by_cases e1 : drw r.2.2.1 100 < bSl B
      · have hch : chA B r.1 r.2.2.1 = (chz B r.1 (drw (rnd r.2.2.1) (mvN B r.1)), rnd (rnd r.2.2.1), 1) := by unfold chA; rw [if_neg hnov, if_pos e1]
        rw [hch] at hcs
        have hd2 := c_draw (m := mvN B r.1) (s := uI s 0 12 (Int32.ofInt (rnd r.2.2.1))) (u_eq _ _ _ _) hrb.1 hrb.2 (by omega) (by omega)
        have hdb2 : 0 ≤ drw (rnd r.2.2.1) (mvN B r.1) ∧ drw (rnd r.2.2.1) (mvN B r.1) < 200 := by
          unfold drw
          have hr2 := rnd_b (rnd r.2.2.1)
          have a := Int.emod_nonneg (rnd (rnd r.2.2.1) / 64) e0
          have b := Int.emod_lt_of_pos (rnd (rnd r.2.2.1) / 64) (show 0 < mvN B r.1 by omega)
          omega
        have hq2 : CQ B r.1 brd p (uI (uI s 0 12 (Int32.ofInt (rnd r.2.2.1))) 0 12 (Int32.ofInt (rnd (rnd r.2.2.1)))) := CQ_x hq1 (fun a k x => u_no (by omega)) rfl
        have hK2 : CK r.2.1 (uI (uI s 0 12 (Int32.ofInt (rnd r.2.2.1))) 0 12 (Int32.ofInt (rnd (rnd r.2.2.1)))) := CK_fr hK1 (u_no (by omega)) (fun k => u_no (by omega))
        have hmv := c_moveAt hq2.1.1.1 hq2.1.1.2.1 (k := drw (rnd r.2.2.1) (mvN B r.1)) (by omega) (by omega)
        obtain ⟨s2, b1, b2, b3, b4, b5⟩ := c_actDay hq2 hK2 hl (by omega) (okA_chz (G := r.1) hM0 (w := drw (rnd r.2.2.1) (mvN B r.1)) (by omega))
        obtain ⟨s3, c1, c2, c3, c3b, c4, c5, c6, c7⟩ := ih F (i + 1) (chS B r) s2 (by rw [hcs]; exact b2) (by rw [hcs]; exact b3) (by rw [hcs, b4 0 12 (by omega) (by omega) (by omega), u_eq]) (by rw [hcs]; exact rnd_b _) (by rw [hcs]; exact keepA_len hl) (by rw [hcs]; show gd_ (dayG B r.1 _) + (c : Int) ≤ 999; rw [dayG_d]; omega) (by omega) (by omega) (by omega)
        refine ⟨s3, ?_, c2, c3, c3b, c4, (show r.2.1 <+: (chS B r).2.1 by rw [hcs]; exact keepA_pre B r.1 _ r.2.1).trans c5, fun a k x y z w => by rw [c6 a k x y z w, b4 a k x y z, ua, if_neg w, ua, if_neg w], c7.trans b5⟩
        rw [← c1, f_X9_chance_L32, hcs]
        have hP19' : (uI s 0 12 (Int32.ofInt (rnd r.2.2.1))).1 p 19 = Int32.ofInt (bSl B) := by rw [u_no (by omega)]; exact hP19
        simp (disch := omega) only [hmc, hd1, hd2, hP3, hP19', hmv, b1, u_3, g_kk, g_k1, g_n1, g_k2, g_n2, g_k3, g_n3, g_k4, g_n4, g_k5, g_n5, g_k7, g_n7, g_k8, g_n8, g_k9, g_n9, g_k6, g_r3, g_r4, g_r5, g_r6, g_r7, g_r10, g_q0, g_q1, g_q2, p_kk, p_k1, p_n1, p_k2, p_n2, p_k3, p_n3, p_k4, p_n4, p_k5, p_n5, p_k6, p_n6, p_k7, p_n7, p_k8, p_n8, p_k9, p_n9, p_k10, p_n10, p_k11, p_n11, p_k13, p_n13, p_k12, p_r2, p_r4, p_r5, p_r6, p_r7, p_r9, p_r10, p_r11, p_r13, p_r14, p_r15, p_r16, p_h0, n_i8, n_i16, n_0, n_31, n_add, n_sub, n_mul, n_neg, n_div, n_rem, n_le_t, n_le_f, n_lt_t, n_lt_f, n_eq_t, n_eq_f, n_cl, n_gd, n_gdt, n_nz, Int.reduceToNat, Int.reduceAdd, Int.reduceSub, Int.reduceMul, Int.reduceNeg, Int.reduceLT, Int.reduceLE, Int.reduceEq, Int.reduceDiv, Int.reduceMod, Nat.reduceAdd, Nat.reduceMul, ↓reduceIte, ltd, bnd]
      · have hch : chA B r.1 r.2.2.1 = (todA B (-1) 0 r.1, rnd r.2.2.1, 0) := by unfold chA; rw [if_neg hnov, if_neg e1]
        obtain ⟨s', q1, q2⟩ := best (uI s 0 12 (Int32.ofInt (rnd r.2.2.1))) (rnd r.2.2.1) hq1 hK1 (u_eq _ _ _ _) (fun a k x => by rw [ua, if_neg x]) rfl hrb hch
        refine ⟨s', ?_, q2⟩
        rw [← q1, f_X9_chance_L32]
        have hP19' : (uI s 0 12 (Int32.ofInt (rnd r.2.2.1))).1 p 19 = Int32.ofInt (bSl B) := by rw [u_no (by omega)]; exact hP19
        simp (disch := omega) only [hmc, hd1, hP3, hP19', u_3, g_kk, g_k1, g_n1, g_k2, g_n2, g_k3, g_n3, g_k4, g_n4, g_k5, g_n5, g_k7, g_n7, g_k8, g_n8, g_k9, g_n9, g_k6, g_r3, g_r4, g_r5, g_r6, g_r7, g_r10, g_q0, g_q1, g_q2, p_kk, p_k1, p_n1, p_k2, p_n2, p_k3, p_n3, p_k4, p_n4, p_k5, p_n5, p_k6, p_n6, p_k7, p_n7, p_k8, p_n8, p_k9, p_n9, p_k10, p_n10, p_k11, p_n11, p_k13, p_n13, p_k12, p_r2, p_r4, p_r5, p_r6, p_r7, p_r9, p_r10, p_r11, p_r13, p_r14, p_r15, p_r16, p_h0, n_i8, n_i16, n_0, n_31, n_add, n_sub, n_mul, n_neg, n_div, n_rem, n_le_t, n_le_f, n_lt_t, n_lt_f, n_eq_t, n_eq_f, n_cl, n_gd, n_gdt, n_nz, Int.reduceToNat, Int.reduceAdd, Int.reduceSub, Int.reduceMul, Int.reduceNeg, Int.reduceLT, Int.reduceLE, Int.reduceEq, Int.reduceDiv, Int.reduceMod, Nat.reduceAdd, Nat.reduceMul, ↓reduceIte, ltd, bnd]
theorem c_chance {B : Brd} {G : Gam} {brd : Bool} {p : Nat} {K : List Ent} {U : USn} {x : Int} {s : ST} (h : CQ B G brd p s) (hK : CK K s) (hU : CU B U s) (hl : (K.length : Int) ≤ gd_ G) (hx : s.1 0 12 = Int32.ofInt x) (hx2 : 0 ≤ x ∧ x < 2147483648) {n : Int} (n1 : -2147483648 ≤ n) (n2 : n ≤ 2147483647) : (ahd G brd n 1 30 → ∃ s', f_X9_chance (Int32.ofInt n) s = some (Int32.ofInt (chN B n.toNat (G, K, x, 0)).2.2.2, s') ∧ CQ B (chN B n.toNat (G, K, x, 0)).1 brd p s' ∧ CK (chN B n.toNat (G, K, x, 0)).2.1 s' ∧ CU B ((G, K) :: U.take 19) s' ∧ AX s s' ∧ s'.1 0 12 = Int32.ofInt (chN B n.toNat (G, K, x, 0)).2.2.1 ∧ ((chN B n.toNat (G, K, x, 0)).2.1.length : Int) ≤ gd_ (chN B n.toNat (G, K, x, 0)).1 ∧ K <+: (chN B n.toNat (G, K, x, 0)).2.1) ∧ (¬ ahd G brd n 1 30 → f_X9_chance (Int32.ofInt n) s = some (Int32.ofInt (-1), crf s 3)) := by
  have hc := c_canCome h n1 n2 (a := 1) (b := 30) (by omega) (by omega) (by omega) (by omega)
  have href := c_refuse (s := s) (j := 3) (by omega) (by omega)
  have hB := h.1.1.1.1.1
  constructor
  · intro ha
    have hc := hc.1 ha
    have hn := ha.2.1
    obtain ⟨s1, a1, a2, a3, a4⟩ := c_remember (K := K) h.1.1 h.1.2.1 hK.1 hU
    have hq1 := CQ_x h (fun a k x => a3 a k (by omega) (by omega)) a4
    obtain ⟨s2, b1, b2, b3, b3b, b4, b5, b6, b7⟩ := c_chance_L ha.1 (N := n) (by omega) n.toNat fuel 0 (G, K, x, 0) s1 hq1 (CK_fr hK (a3 56 1 (by omega) (by omega)) (fun k => a3 57 k (by omega) (by omega))) ((a3 0 12 (by omega) (by omega)).trans hx) hx2 hl (by have := ha.2.2; show gd_ G + (n.toNat : Int) ≤ 999; omega) (by omega) (by omega) (by unfold fuel; omega)
    have hU2 : CU B ((G, K) :: U.take 19) s2 := ⟨(b6 56 3 (by omega) (by omega) (by omega) (by omega)).trans a2.1, a2.2.1, CUl_fr hB a2.2.2 (fun k _ => b6 58 k (by omega) (by omega) (by omega) (by omega))⟩
    refine ⟨s2, ?_, b2, b3, hU2, ⟨fun a k x y z w v => (b6 a k x z (by omega) v).trans (a3 a k w (by omega)), b7.trans a4⟩, b3b, b4, b5⟩
    simp (disch := omega) only [f_X9_chance, hc, a1, b1, n_i8, n_i16, n_0, n_31, n_add, n_sub, n_mul, n_neg, n_div, n_rem, n_le_t, n_le_f, n_lt_t, n_lt_f, n_eq_t, n_eq_f, n_cl, n_gd, n_gdt, n_nz, Int.reduceToNat, Int.reduceAdd, Int.reduceSub, Int.reduceMul, Int.reduceNeg, Int.reduceLT, Int.reduceLE, Int.reduceEq, Int.reduceDiv, Int.reduceMod, Nat.reduceAdd, Nat.reduceMul, ↓reduceIte, u_eq, u_no, u_nk, u_ek, u_2, u_3, j_1, j_3, j_eq, j_no, j_nk, ltd, bnd]
  · intro hn
    have hc := hc.2 hn
    simp (disch := omega) only [f_X9_chance, hc, href, n_i8, n_i16, n_0, n_31, n_add, n_sub, n_mul, n_neg, n_div, n_rem, n_le_t, n_le_f, n_lt_t, n_lt_f, n_eq_t, n_eq_f, n_cl, n_gd, n_gdt, n_nz, Int.reduceToNat, Int.reduceAdd, Int.reduceSub, Int.reduceMul, Int.reduceNeg, Int.reduceLT, Int.reduceLE, Int.reduceEq, Int.reduceDiv, Int.reduceMod, Nat.reduceAdd, Nat.reduceMul, ↓reduceIte, u_eq, u_no, u_nk, u_ek, u_2, u_3, j_1, j_3, j_eq, j_no, j_nk, ltd, bnd]
theorem c_undo0 {B : Brd} {s : ST} (hU : CU B [] s) : f_X9_undo s = some (Int32.ofInt 0, crf s 4) := by
  have h1 := c_takeBack0 hU
  have href := c_refuse (s := s) (j := 4) (by omega) (by omega)
  simp (disch := omega) only [f_X9_undo, h1, href, n_i8, n_i16, n_0, n_31, n_add, n_sub, n_mul, n_neg, n_div, n_rem, n_le_t, n_le_f, n_lt_t, n_lt_f, n_eq_t, n_eq_f, n_cl, n_gd, n_gdt, n_nz, Int.reduceToNat, Int.reduceAdd, Int.reduceSub, Int.reduceMul, Int.reduceNeg, Int.reduceLT, Int.reduceLE, Int.reduceEq, Int.reduceDiv, Int.reduceMod, Nat.reduceAdd, Nat.reduceMul, ↓reduceIte, u_eq, u_no, u_nk, u_ek, u_2, u_3, j_1, j_3, j_eq, j_no, j_nk, ltd, bnd]
theorem c_undo {B : Brd} {G G' : Gam} {brd : Bool} {p : Nat} {K K' : List Ent} {U : USn} {s : ST} (h : CQ B G brd p s) (hG' : Gv B G') (hd' : gd_ G' ≤ 999) (hK : CK K s) (hpr : K' <+: K) (hU : CU B ((G', K') :: U) s) : ∃ s', f_X9_undo s = some (Int32.ofInt 1, s') ∧ CQ B G' brd p s' ∧ CK K' s' ∧ CU B U s' ∧ AX0 s s' := by
  obtain ⟨s1, a1, a2, a3, a4, a5, a6, a7, a8⟩ := c_takeBack h.1.1.1 hG' hK hpr hU
  refine ⟨s1, ?_, ⟨⟨a2, a3, ⟨(a7 0).trans h.1.2.2.1.1, (a7 1).trans h.1.2.2.1.2⟩, h.1.2.2.2⟩, ⟨by rw [a8]; exact h.2.1.1, by rw [a8]; exact h.2.1.2⟩, h.2.2.1, h.2.2.2.1, hd'⟩, a4, a5, ⟨fun a k x y z w => a6 a k x (by omega), a8⟩⟩
  simp (disch := omega) only [f_X9_undo, a1, n_i8, n_i16, n_0, n_31, n_add, n_sub, n_mul, n_neg, n_div, n_rem, n_le_t, n_le_f, n_lt_t, n_lt_f, n_eq_t, n_eq_f, n_cl, n_gd, n_gdt, n_nz, Int.reduceToNat, Int.reduceAdd, Int.reduceSub, Int.reduceMul, Int.reduceNeg, Int.reduceLT, Int.reduceLE, Int.reduceEq, Int.reduceDiv, Int.reduceMod, Nat.reduceAdd, Nat.reduceMul, ↓reduceIte, u_eq, u_no, u_nk, u_ek, u_2, u_3, j_1, j_3, j_eq, j_no, j_nk, ltd, bnd]
theorem c_seed {s : ST} {z : Int} (z1 : -2147483648 ≤ z) (z2 : z ≤ 2147483647) : (0 ≤ z → f_X9_seed (Int32.ofInt z) s = some (Int32.ofInt 1, uI s 0 12 (Int32.ofInt z))) ∧ (¬ 0 ≤ z → f_X9_seed (Int32.ofInt z) s = some (Int32.ofInt 0, crf s 5)) := by
  have href := c_refuse (s := s) (j := 5) (by omega) (by omega)
  constructor
  · intro h
    simp (disch := omega) only [f_X9_seed, n_i8, n_i16, n_0, n_31, n_add, n_sub, n_mul, n_neg, n_div, n_rem, n_le_t, n_le_f, n_lt_t, n_lt_f, n_eq_t, n_eq_f, n_cl, n_gd, n_gdt, n_nz, Int.reduceToNat, Int.reduceAdd, Int.reduceSub, Int.reduceMul, Int.reduceNeg, Int.reduceLT, Int.reduceLE, Int.reduceEq, Int.reduceDiv, Int.reduceMod, Nat.reduceAdd, Nat.reduceMul, ↓reduceIte, u_eq, u_no, u_nk, u_ek, u_2, u_3, j_1, j_3, j_eq, j_no, j_nk, ltd, bnd]
  · intro h
    simp (disch := omega) only [f_X9_seed, href, n_i8, n_i16, n_0, n_31, n_add, n_sub, n_mul, n_neg, n_div, n_rem, n_le_t, n_le_f, n_lt_t, n_lt_f, n_eq_t, n_eq_f, n_cl, n_gd, n_gdt, n_nz, Int.reduceToNat, Int.reduceAdd, Int.reduceSub, Int.reduceMul, Int.reduceNeg, Int.reduceLT, Int.reduceLE, Int.reduceEq, Int.reduceDiv, Int.reduceMod, Nat.reduceAdd, Nat.reduceMul, ↓reduceIte, u_eq, u_no, u_nk, u_ek, u_2, u_3, j_1, j_3, j_eq, j_no, j_nk, ltd, bnd]
theorem m_seed {s : ST} {z : Int} (z1 : -2147483648 ≤ z) (z2 : z ≤ 2147483647) : (0 ≤ z → f_X10_seed (Int32.ofInt z) s = some (Int32.ofInt 1, uJ s 65 86 (Int64.ofInt z))) ∧ (¬ 0 ≤ z → f_X10_seed (Int32.ofInt z) s = some (Int32.ofInt 0, rfS s 5)) := by
  constructor
  · intro h
    simp (disch := omega) only [f_X10_seed, l_i, n_i8, n_i16, n_0, n_31, n_add, n_sub, n_mul, n_neg, n_div, n_rem, n_le_t, n_le_f, n_lt_t, n_lt_f, n_eq_t, n_eq_f, n_cl, n_gd, n_gdt, n_nz, Int.reduceToNat, Int.reduceAdd, Int.reduceSub, Int.reduceMul, Int.reduceNeg, Int.reduceLT, Int.reduceLE, Int.reduceEq, Int.reduceDiv, Int.reduceMod, Nat.reduceAdd, Nat.reduceMul, ↓reduceIte, u_eq, u_no, u_nk, u_ek, u_2, u_3, j_1, j_3, j_eq, j_no, j_nk, ltd, bnd]
  · intro h
    simp (disch := omega) only [f_X10_seed, rfS, n_i8, n_i16, n_0, n_31, n_add, n_sub, n_mul, n_neg, n_div, n_rem, n_le_t, n_le_f, n_lt_t, n_lt_f, n_eq_t, n_eq_f, n_cl, n_gd, n_gdt, n_nz, Int.reduceToNat, Int.reduceAdd, Int.reduceSub, Int.reduceMul, Int.reduceNeg, Int.reduceLT, Int.reduceLE, Int.reduceEq, Int.reduceDiv, Int.reduceMod, Nat.reduceAdd, Nat.reduceMul, ↓reduceIte, u_eq, u_no, u_nk, u_ek, u_2, u_3, j_1, j_3, j_eq, j_no, j_nk, ltd, bnd]
