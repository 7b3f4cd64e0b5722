/-! L3: on of the class -/
theorem c_take_a {B : Brd} {p : Nat} {ax ay : Int → Int} (hB : Bv B) (hp : p = 6 ∨ p = 20) (K : ST → Option ST) : ∀ (n F : Nat) (i : Int) (s : ST), RR s.2.2 0 3 = some p → s.1 p 8 = Int32.ofInt (bM B) → AM B ax ay s → 0 ≤ i → (n : Int) = bM B - i → n < F → (∀ m : Int, 0 ≤ m → m < i → s.1 38 m.toNat = Int32.ofInt (paL ax ay m)) → ∃ s', f_X9_takeImage_L32 K F (Int32.ofInt i) s = K s' ∧ (∀ m : Int, 0 ≤ m → m < bM B → s'.1 38 m.toNat = Int32.ofInt (paL ax ay m)) ∧ (∀ a k : Nat, ¬ a = 38 → s'.1 a k = s.1 a k) ∧ s'.2 = s.2 := by
  have hM8 : bM B ≤ 8 := hB.1.1.2.2.2.2.2.2.2.1
  intro n
  induction n with
  | zero =>
    intro F i s hP c8 hAM i0 hn hF hs
    obtain ⟨F, rfl⟩ : ∃ F', F = F' + 1 := ⟨F - 1, by omega⟩
    refine ⟨s, ?_, fun m m0 m1 => hs m m0 (by omega), fun _ _ _ => rfl, rfl⟩
    simp (disch := omega) only [f_X9_takeImage_L32, hP, c8, g_kk, g_k1, g_n1, g_k2, g_n2, g_k3, g_n3, g_k4, g_n4, g_k5, g_n5, g_k7, g_n7, g_k8, g_n8, g_k9, g_n9, g_k6, g_r3, g_r4, g_r5, g_r6, g_r7, g_r10, g_q0, g_q1, g_q2, p_kk, p_k1, p_n1, p_k2, p_n2, p_k3, p_n3, p_k4, p_n4, p_k5, p_n5, p_k6, p_n6, p_k7, p_n7, p_k8, p_n8, p_k9, p_n9, p_k10, p_n10, p_k11, p_n11, p_k13, p_n13, p_k12, p_r2, p_r4, p_r5, p_r6, p_r7, p_r9, p_r10, p_r11, p_r13, p_r14, p_r15, p_r16, p_h0, n_i8, n_i16, n_0, n_31, n_add, n_sub, n_mul, n_neg, n_div, n_rem, n_le_t, n_le_f, n_lt_t, n_lt_f, n_eq_t, n_eq_f, n_cl, n_gd, n_gdt, n_nz, Int.reduceToNat, Int.reduceAdd, Int.reduceSub, Int.reduceMul, Int.reduceNeg, Int.reduceLT, Int.reduceLE, Int.reduceEq, Int.reduceDiv, Int.reduceMod, Nat.reduceAdd, Nat.reduceMul, ↓reduceIte, u_eq, u_no, u_nk, u_ek, u_2, u_3, j_1, j_3, j_eq, j_no, j_nk, ltd, bnd]
  | succ n ih =>
    intro F i s hP c8 hAM i0 hn hF hs
    obtain ⟨F, rfl⟩ : ∃ F', F = F' + 1 := ⟨F - 1, by omega⟩
    have hai := hAM i i0 (by omega)
    obtain ⟨s', q1, q2, q3, q4⟩ := ih F (i + 1) (uI s 38 i.toNat (Int32.ofInt (paL ax ay i))) hP (by rw [u_no (by omega)]; exact c8) (fun m m0 m1 => by rw [u_no (by omega)]; exact hAM m m0 m1) (by omega) (by omega) (by omega) (fun m m0 m1 => by
      by_cases x : m = i
      · rw [x, u_eq]
      · rw [u_nk (by omega)]; exact hs m m0 (by omega))
    refine ⟨s', ?_, q2, fun a k x => (q3 a k x).trans (u_no x), q4⟩
    rw [← q1, f_X9_takeImage_L32]
    simp (disch := omega) only [hP, c8, hai, g_kk, g_k1, g_n1, g_k2, g_n2, g_k3, g_n3, g_k4, g_n4, g_k5, g_n5, g_k7, g_n7, g_k8, g_n8, g_k9, g_n9, g_k6, g_r3, g_r4, g_r5, g_r6, g_r7, g_r10, g_q0, g_q1, g_q2, p_kk, p_k1, p_n1, p_k2, p_n2, p_k3, p_n3, p_k4, p_n4, p_k5, p_n5, p_k6, p_n6, p_k7, p_n7, p_k8, p_n8, p_k9, p_n9, p_k10, p_n10, p_k11, p_n11, p_k13, p_n13, p_k12, p_r2, p_r4, p_r5, p_r6, p_r7, p_r9, p_r10, p_r11, p_r13, p_r14, p_r15, p_r16, p_h0, n_i8, n_i16, n_0, n_31, n_add, n_sub, n_mul, n_neg, n_div, n_rem, n_le_t, n_le_f, n_lt_t, n_lt_f, n_eq_t, n_eq_f, n_cl, n_gd, n_gdt, n_nz, Int.reduceToNat, Int.reduceAdd, Int.reduceSub, Int.reduceMul, Int.reduceNeg, Int.reduceLT, Int.reduceLE, Int.reduceEq, Int.reduceDiv, Int.reduceMod, Nat.reduceAdd, Nat.reduceMul, ↓reduceIte, u_eq, u_no, u_nk, u_ek, u_2, u_3, j_1, j_3, j_eq, j_no, j_nk, ltd, bnd]
theorem c_take_b {B : Brd} {p : Nat} {T : Int → Int} {n : Int} (hB : Bv B) (hp : p = 6 ∨ p = 20) (hn : 3 + 2 * bM B + 2 * bF B ≤ n) (K : ST → Option ST) : ∀ (m F : Nat) (i : Int) (s : ST), RR s.2.2 0 3 = some p → s.1 p 8 = Int32.ofInt (bM B) → s.1 p 12 = Int32.ofInt (bF B) → CT T n s → 0 ≤ i → (m : Int) = bF B - i → m < F → (∀ f : Int, 0 ≤ f → f < i → s.1 39 f.toNat = Int32.ofInt (gb (imgG B T) f)) → ∃ s', f_X9_takeImage_L66 K F (Int32.ofInt i) s = K s' ∧ (∀ f : Int, 0 ≤ f → f < bF B → s'.1 39 f.toNat = Int32.ofInt (gb (imgG B T) f)) ∧ (∀ a k : Nat, ¬ a = 39 → s'.1 a k = s.1 a k) ∧ s'.2 = s.2 := by
  have hM8 : bM B ≤ 8 := hB.1.1.2.2.2.2.2.2.2.1
  have hM0 : 0 ≤ bM B := hB.1.1.2.2.2.2.2.2.1
  have hF6 : bF B ≤ 6 := hB.1.1.2.2.2.2.2.2.2.2.2
  intro m
  induction m with
  | zero =>
    intro F i s hP c8 c12 hT i0 hm hF hs
    obtain ⟨F, rfl⟩ : ∃ F', F = F' + 1 := ⟨F - 1, by omega⟩
    refine ⟨s, ?_, fun f f0 f1 => hs f f0 (by omega), fun _ _ _ => rfl, rfl⟩
    simp (disch := omega) only [f_X9_takeImage_L66, hP, c12, g_kk, g_k1, g_n1, g_k2, g_n2, g_k3, g_n3, g_k4, g_n4, g_k5, g_n5, g_k7, g_n7, g_k8, g_n8, g_k9, g_n9, g_k6, g_r3, g_r4, g_r5, g_r6, g_r7, g_r10, g_q0, g_q1, g_q2, p_kk, p_k1, p_n1, p_k2, p_n2, p_k3, p_n3, p_k4, p_n4, p_k5, p_n5, p_k6, p_n6, p_k7, p_n7, p_k8, p_n8, p_k9, p_n9, p_k10, p_n10, p_k11, p_n11, p_k13, p_n13, p_k12, p_r2, p_r4, p_r5, p_r6, p_r7, p_r9, p_r10, p_r11, p_r13, p_r14, p_r15, p_r16, p_h0, n_i8, n_i16, n_0, n_31, n_add, n_sub, n_mul, n_neg, n_div, n_rem, n_le_t, n_le_f, n_lt_t, n_lt_f, n_eq_t, n_eq_f, n_cl, n_gd, n_gdt, n_nz, Int.reduceToNat, Int.reduceAdd, Int.reduceSub, Int.reduceMul, Int.reduceNeg, Int.reduceLT, Int.reduceLE, Int.reduceEq, Int.reduceDiv, Int.reduceMod, Nat.reduceAdd, Nat.reduceMul, ↓reduceIte, u_eq, u_no, u_nk, u_ek, u_2, u_3, j_1, j_3, j_eq, j_no, j_nk, ltd, bnd]
  | succ m ih =>
    intro F i s hP c8 c12 hT i0 hm hF hs
    obtain ⟨F, rfl⟩ : ∃ F', F = F' + 1 := ⟨F - 1, by omega⟩
    have hpa := c_pairAt hT (k := 3 + 2 * bM B + 2 * i) (by omega) (by omega)
    have hgb : gb (imgG B T) i = 256 * T (3 + 2 * bM B + 2 * i) + T (3 + 2 * bM B + 2 * i + 1) := rfl
    obtain ⟨s', q1, q2, q3, q4⟩ := ih F (i + 1) (uI s 39 i.toNat (Int32.ofInt (256 * T (3 + 2 * bM B + 2 * i) + T (3 + 2 * bM B + 2 * i + 1)))) hP (by rw [u_no (by omega)]; exact c8) (by rw [u_no (by omega)]; exact c12) (CT_fr hT (u_no (by omega)) (fun k => u_no (by omega))) (by omega) (by omega) (by omega) (fun f f0 f1 => by
      by_cases x : f = i
      · rw [x, u_eq, hgb]
      · rw [u_nk (by omega)]; exact hs f f0 (by omega))
    refine ⟨s', ?_, q2, fun a k x => (q3 a k x).trans (u_no x), q4⟩
    rw [← q1, f_X9_takeImage_L66]
    simp (disch := omega) only [hP, c8, c12, hpa, g_kk, g_k1, g_n1, g_k2, g_n2, g_k3, g_n3, g_k4, g_n4, g_k5, g_n5, g_k7, g_n7, g_k8, g_n8, g_k9, g_n9, g_k6, g_r3, g_r4, g_r5, g_r6, g_r7, g_r10, g_q0, g_q1, g_q2, p_kk, p_k1, p_n1, p_k2, p_n2, p_k3, p_n3, p_k4, p_n4, p_k5, p_n5, p_k6, p_n6, p_k7, p_n7, p_k8, p_n8, p_k9, p_n9, p_k10, p_n10, p_k11, p_n11, p_k13, p_n13, p_k12, p_r2, p_r4, p_r5, p_r6, p_r7, p_r9, p_r10, p_r11, p_r13, p_r14, p_r15, p_r16, p_h0, n_i8, n_i16, n_0, n_31, n_add, n_sub, n_mul, n_neg, n_div, n_rem, n_le_t, n_le_f, n_lt_t, n_lt_f, n_eq_t, n_eq_f, n_cl, n_gd, n_gdt, n_nz, Int.reduceToNat, Int.reduceAdd, Int.reduceSub, Int.reduceMul, Int.reduceNeg, Int.reduceLT, Int.reduceLE, Int.reduceEq, Int.reduceDiv, Int.reduceMod, Nat.reduceAdd, Nat.reduceMul, ↓reduceIte, u_eq, u_no, u_nk, u_ek, u_2, u_3, j_1, j_3, j_eq, j_no, j_nk, ltd, bnd]
theorem c_take {B : Brd} {G : Gam} {brd : Bool} {p : Nat} {T : Int → Int} {n : Int} {s : ST} (h : CQ B G brd p s) (hT : CT T n s) (hn : n = 3 + 2 * bM B + 2 * bF B + 1) (hGv : Gv B (imgG B T)) (hd : 256 * T 0 + T 1 ≤ 999) (hAM : AM B (axT T 3) (ayT T 3) s) : ∃ s', f_X9_takeImage s = some s' ∧ CQ B (imgG B T) brd p s' ∧ CK [] s' ∧ CU B [] s' ∧ (∀ a k : Nat, ¬ (36 ≤ a ∧ a ≤ 45) → ¬ a = 56 → s'.1 a k = s.1 a k) ∧ s'.2 = s.2 := by
  have hA := h.1.1.1
  have hB := hA.1.1
  have hp := hA.2.1.2
  have hP := h.2.1.1
  have hF6 : bF B ≤ 6 := hB.1.1.2.2.2.2.2.2.2.2.2
  have hF0 : 0 ≤ bF B := hB.1.1.2.2.2.2.2.2.2.2.1
  have hM8 : bM B ≤ 8 := hB.1.1.2.2.2.2.2.2.2.1
  have hM0 : 0 ≤ bM B := hB.1.1.2.2.2.2.2.2.1
  have c12 : s.1 p 12 = Int32.ofInt (bF B) := hA.2.2.2.1.1.2.2.2.2.1
  have c8 : s.1 p 8 = Int32.ofInt (bM B) := hA.2.2.2.1.1.2.2.2.1
  have b0 := c_pairAt hT (k := 0) (by omega) (by omega)
  rw [show (0 : Int) + 1 = 1 from rfl] at b0
  have hT1 : CT T n (uI s 36 1 (Int32.ofInt (256 * T 0 + T 1))) := CT_fr hT (u_no (by omega)) (fun k => u_no (by omega))
  have b2 := c_byteAt hT1 (k := 2) (by omega) (by omega)
  obtain ⟨s2, q1, q2, q3, q4⟩ := c_take_a (ax := axT T 3) (ay := ayT T 3) hB hp f_X9_takeImage_j64 (bM B).toNat fuel 0 (uI (uI s 36 1 (Int32.ofInt (256 * T 0 + T 1))) 36 2 (Int32.ofInt (T 2))) hP (by rw [u_no (by omega), u_no (by omega)]; exact c8) (fun m m0 m1 => by rw [u_no (by omega), u_no (by omega)]; exact hAM m m0 m1) (by omega) (by omega) (by unfold fuel; omega) (fun m m0 m1 => by omega)
  have hf2 : ∀ a k : Nat, ¬ a = 38 → ¬ a = 36 → s2.1 a k = s.1 a k := fun a k x y => by rw [q3 a k x, u_no y, u_no y]
  have hP2 : RR s2.2.2 0 3 = some p := by rw [q4]; exact hP
  obtain ⟨s3, r1, r2, r3, r4⟩ := c_take_b (T := T) (n := n) hB hp (by omega) f_X9_takeImage_j114 (bF B).toNat fuel 0 s2 hP2 ((hf2 p 8 (by omega) (by omega)).trans c8) ((hf2 p 12 (by omega) (by omega)).trans c12) (CT_fr hT (hf2 1 1 (by omega) (by omega)) (fun k => hf2 2 k (by omega) (by omega))) (by omega) (by omega) (by unfold fuel; omega) (fun f f0 f1 => by omega)
  have hf3 : ∀ a k : Nat, ¬ a = 38 → ¬ a = 36 → ¬ a = 39 → s3.1 a k = s.1 a k := fun a k x y z => (r3 a k z).trans (hf2 a k x y)
  have h22 : s3.2 = s.2 := r4.trans q4
  obtain ⟨s4, t1, t2, t3⟩ := c_settle (o := 36) (p := p) (G := imgG B T) (s := s3) hB hGv (Or.inl rfl) hp (by rw [h22]; exact hA.2.2.1) (PB_fr hA.2.2.2.1 (fun a k a0 a1 => hf3 a k (by omega) (by omega) (by omega))) (fun m m0 m1 => by
    rw [r3 _ _ (by omega)]
    exact q2 m m0 m1)
  have hf4 : ∀ a k : Nat, ¬ (36 ≤ a ∧ a ≤ 45) → s4.1 a k = s.1 a k := fun a k x => (t3.1 a k (by omega) (by omega) (by omega) (by omega)).trans (hf3 a k (by omega) (by omega) (by omega))
  have hk4 : ∀ k : Nat, s4.1 37 k = s.1 37 k := fun k => (t3.1 37 k (by omega) (by omega) (by omega) (by omega)).trans (hf3 37 k (by omega) (by omega) (by omega))
  have hd4 : s4.1 36 1 = Int32.ofInt (256 * T 0 + T 1) := by
    rw [t3.1 36 1 (by omega) (by omega) (by omega) (by omega), r3 36 1 (by omega), q3 36 1 (by omega), u_nk (by omega), u_eq]
  have hs4 : s4.1 36 2 = Int32.ofInt (T 2) := by
    rw [t3.1 36 2 (by omega) (by omega) (by omega) (by omega), r3 36 2 (by omega), q3 36 2 (by omega), u_eq]
  have hb4 : GB B (imgG B T) 36 s4 := fun f f0 f1 => by
    rw [t3.1 _ _ (by omega) (by omega) (by omega) (by omega)]; exact r2 f f0 f1
  have hq : CQ B (imgG B T) brd p s4 := ⟨⟨⟨t2, hs4, hb4⟩, hd4, ⟨(hk4 0).trans h.1.2.2.1.1, (hk4 1).trans h.1.2.2.1.2⟩, h.1.2.2.2⟩, ⟨by rw [t3.2, h22]; exact h.2.1.1, by rw [t3.2, h22]; exact h.2.1.2⟩, h.2.2.1, h.2.2.2.1, hd⟩
  refine ⟨uI (uI s4 56 1 (Int32.ofInt 0)) 56 3 (Int32.ofInt 0), ?_, CQ_x hq (fun a k x => by rw [u_no (by omega), u_no (by omega)]) rfl, ⟨by rw [u_nk (by omega), u_eq]; rfl, by simp, fun j hj => by cases hj⟩, ⟨u_eq _ _ _ _, by simp, trivial⟩, fun a k x y => by rw [u_no y, u_no y, hf4 a k x], t3.2.trans h22⟩
  have hj : f_X9_takeImage_j114 s3 = some (uI (uI s4 56 1 (Int32.ofInt 0)) 56 3 (Int32.ofInt 0)) := by
    simp only [f_X9_takeImage_j114, t1, f_X0_forget, u_eq, u_no, u_nk, u_ek, u_2, u_3, j_1, j_3, j_eq, j_no, j_nk, ltd, bnd]
  have hj2 : f_X9_takeImage_j64 s2 = f_X9_takeImage_j114 s3 := r1
  simp (disch := omega) only [f_X9_takeImage, b0, b2, q1, hj2, hj, u_eq, u_no, u_nk, u_ek, u_2, u_3, j_1, j_3, j_eq, j_no, j_nk, ltd, bnd]
theorem nb_0 {α : Type} {x : Option α} : gd (nb (Int32.ofInt 0)) x = x := by rw [show nb (Int32.ofInt 0) = true from rfl]; rfl
theorem nb_1 {α : Type} {x : Option α} : gd (nb (Int32.ofInt 1)) x = x := by rw [show nb (Int32.ofInt 1) = true from rfl]; rfl
theorem c_on {B : Brd} {G : Gam} {brd : Bool} {p : Nat} {T : Int → Int} {n : Int} {s : ST} (h : CQ B G brd p s) (hT : CT T n s) : (imgOK B brd T n → Gv B (imgG B T) → ∃ s', f_X9_on s = some (Int32.ofInt 1, s') ∧ CQ B (imgG B T) brd p s' ∧ CK [] s' ∧ CU B [] s' ∧ s'.1 1 1 = Int32.ofInt 0 ∧ (∀ a k : Nat, ¬ (36 ≤ a ∧ a ≤ 45) → ¬ a = 56 → ¬ a = 63 → ¬ (a = 1 ∧ k = 1) → s'.1 a k = s.1 a k) ∧ s'.2 = s.2) ∧ (¬ imgOK B brd T n → ∃ s1, f_X9_on s = some (Int32.ofInt 0, uI (crf s1 5) 1 1 (Int32.ofInt 0)) ∧ (∀ a k : Nat, ¬ a = 63 → s1.1 a k = s.1 a k) ∧ s1.2 = s.2) := by
  have ht := c_isTold h
  have href := fun s1 : ST => c_refuse (s := s1) (j := 5) (by omega) (by omega)
  have hno : ∀ s1 : ST, f_X9_on_j26 s1 = some (Int32.ofInt 0, uI (crf s1 5) 1 1 (Int32.ofInt 0)) := by
    intro s1
    have href := href s1
    simp (disch := omega) only [f_X9_on_j26, f_X9_on_j27, f_X9_on_j45, href, nb_0, n_i8, n_i16, n_0, n_31, n_add, n_sub, n_mul, n_neg, n_div, n_rem, n_le_t, n_le_f, n_lt_t, n_lt_f, n_eq_t, n_eq_f, n_cl, n_gd, n_gdt, n_nz, Int.reduceToNat, Int.reduceAdd, Int.reduceSub, Int.reduceMul, Int.reduceNeg, Int.reduceLT, Int.reduceLE, Int.reduceEq, Int.reduceDiv, Int.reduceMod, Nat.reduceAdd, Nat.reduceMul, ↓reduceIte, u_eq, u_no, u_nk, u_ek, u_2, u_3, j_1, j_3, j_eq, j_no, j_nk, ltd, bnd]
  have him := c_isImage h hT
  have hB := h.1.1.1.1.1
  have hF0 : 0 ≤ bF B := hB.1.1.2.2.2.2.2.2.2.2.1
  have hM0 : 0 ≤ bM B := hB.1.1.2.2.2.2.2.2.1
  cases brd with
  | false =>
    refine ⟨fun x => (by have := x.1; cases this), fun _ => ⟨s, ?_, fun _ _ _ => rfl, rfl⟩⟩
    simp (disch := omega) only [f_X9_on, ht, hno, bI_f, n_i8, n_i16, n_0, n_31, n_add, n_sub, n_mul, n_neg, n_div, n_rem, n_le_t, n_le_f, n_lt_t, n_lt_f, n_eq_t, n_eq_f, n_cl, n_gd, n_gdt, n_nz, Int.reduceToNat, Int.reduceAdd, Int.reduceSub, Int.reduceMul, Int.reduceNeg, Int.reduceLT, Int.reduceLE, Int.reduceEq, Int.reduceDiv, Int.reduceMod, Nat.reduceAdd, Nat.reduceMul, ↓reduceIte, u_eq, u_no, u_nk, u_ek, u_2, u_3, j_1, j_3, j_eq, j_no, j_nk, ltd, bnd]
  | true =>
    by_cases e1 : imC B T n
    · have him := him.1 e1
      obtain ⟨s1, a1, a2, a3, a4⟩ := c_places h hT (fr := 3) (by omega) (by have := e1.1; omega)
      by_cases e : areM B T 3 = true
      · rw [e] at a1
        refine ⟨fun _ hGv => ?_, fun x => absurd ⟨rfl, e1.1, e1.2.1, e1.2.2.1, e1.2.2.2.1, e, e1.2.2.2.2⟩ x⟩
        have hq1 := CQ_x h (fun a k x => a3 a k (by omega)) a4
        obtain ⟨s2, b1, b2, b3, b4, b5, b6⟩ := c_take hq1 (CT_fr hT (a3 1 1 (by omega)) (fun k => a3 2 k (by omega))) e1.1 hGv e1.2.2.1 (a2 e)
        refine ⟨uI s2 1 1 (Int32.ofInt 0), ?_, CQ_x b2 (fun a k x => u_no (by omega)) rfl, CK_fr b3 (u_no (by omega)) (fun k => u_no (by omega)), ⟨by rw [u_no (by omega)]; exact b4.1, b4.2.1, trivial⟩, u_eq _ _ _ _, fun a k x y z w => by rw [ua, if_neg w, b5 a k x y, a3 a k z], b6.trans a4⟩
        simp (disch := omega) only [f_X9_on, f_X9_on_j27, f_X9_on_j45, ht, him, a1, b1, nb_1, bI_t, n_i8, n_i16, n_0, n_31, n_add, n_sub, n_mul, n_neg, n_div, n_rem, n_le_t, n_le_f, n_lt_t, n_lt_f, n_eq_t, n_eq_f, n_cl, n_gd, n_gdt, n_nz, Int.reduceToNat, Int.reduceAdd, Int.reduceSub, Int.reduceMul, Int.reduceNeg, Int.reduceLT, Int.reduceLE, Int.reduceEq, Int.reduceDiv, Int.reduceMod, Nat.reduceAdd, Nat.reduceMul, ↓reduceIte, u_eq, u_no, u_nk, u_ek, u_2, u_3, j_1, j_3, j_eq, j_no, j_nk, ltd, bnd]
      · have e' : areM B T 3 = false := by
          cases x : areM B T 3 with
          | true => exact absurd x e
          | false => rfl
        rw [e'] at a1
        refine ⟨fun x => absurd x.2.2.2.2.2.1 e, fun _ => ⟨s1, ?_, a3, a4⟩⟩
        simp (disch := omega) only [f_X9_on, ht, him, a1, hno, bI_t, bI_f, n_i8, n_i16, n_0, n_31, n_add, n_sub, n_mul, n_neg, n_div, n_rem, n_le_t, n_le_f, n_lt_t, n_lt_f, n_eq_t, n_eq_f, n_cl, n_gd, n_gdt, n_nz, Int.reduceToNat, Int.reduceAdd, Int.reduceSub, Int.reduceMul, Int.reduceNeg, Int.reduceLT, Int.reduceLE, Int.reduceEq, Int.reduceDiv, Int.reduceMod, Nat.reduceAdd, Nat.reduceMul, ↓reduceIte, u_eq, u_no, u_nk, u_ek, u_2, u_3, j_1, j_3, j_eq, j_no, j_nk, ltd, bnd]
    · have him := him.2 e1
      refine ⟨fun x => absurd ⟨x.2.1, x.2.2.1, x.2.2.2.1, x.2.2.2.2.1, x.2.2.2.2.2.2⟩ e1, fun _ => ⟨s, ?_, fun _ _ _ => rfl, rfl⟩⟩
      simp (disch := omega) only [f_X9_on, ht, him, hno, bI_t, n_i8, n_i16, n_0, n_31, n_add, n_sub, n_mul, n_neg, n_div, n_rem, n_le_t, n_le_f, n_lt_t, n_lt_f, n_eq_t, n_eq_f, n_cl, n_gd, n_gdt, n_nz, Int.reduceToNat, Int.reduceAdd, Int.reduceSub, Int.reduceMul, Int.reduceNeg, Int.reduceLT, Int.reduceLE, Int.reduceEq, Int.reduceDiv, Int.reduceMod, Nat.reduceAdd, Nat.reduceMul, ↓reduceIte, u_eq, u_no, u_nk, u_ek, u_2, u_3, j_1, j_3, j_eq, j_no, j_nk, ltd, bnd]
