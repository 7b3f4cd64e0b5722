/-! L3: board of the class; both answer alike -/
variable {B : Brd} {G : Gam} {N : Int → Int → List Int} {p o : Nat}
theorem uR_1 (s : ST) (o k a : Nat) : (uR s o k a).1 = s.1 := rfl
theorem uR_2 (s : ST) (o k a : Nat) : (uR s o k a).2.1 = s.2.1 := rfl
theorem bg_M (ho : o = 36 ∨ o = 46) (hp : p = 6 ∨ p = 20) (K : Nat → Nat → ST → Option ST) (s0 : ST) {C : Nat} (hC : C ≤ 8) (h8 : s0.1 p 8 = Int32.ofInt (C : Int)) : ∀ (m F i : Nat) (s : ST), (∀ a k : Nat, ¬ a = o + 2 → s.1 a k = s0.1 a k) → (∀ j : Nat, j < i → s.1 (o + 2) j = s0.1 (p + 8) j) → s.2 = s0.2 → i + m = C → m < F → ∃ s', f_X3_begin_L41 K F o p (Int32.ofInt (i : Int)) s = K o p s' ∧ (∀ a k : Nat, ¬ a = o + 2 → s'.1 a k = s0.1 a k) ∧ (∀ j : Nat, j < C → s'.1 (o + 2) j = s0.1 (p + 8) j) ∧ s'.2 = s0.2 := by
  intro m
  induction m with
  | zero =>
    intro F i s h1 h2 h3 hi hF
    obtain ⟨F, rfl⟩ : ∃ F', F = F' + 1 := ⟨F - 1, by omega⟩
    have e : i = C := by omega
    subst e
    have hn := (h1 p 8 (by omega)).trans h8
    refine ⟨s, ?_, h1, h2, h3⟩
    simp (disch := omega) only [f_X3_begin_L41, hn, g_kk, g_k1, g_n1, g_k2, g_n2, g_k3, g_n3, g_k4, g_n4, g_k5, g_n5, g_k7, g_n7, g_k8, g_n8, g_k9, g_n9, g_k6, g_r3, g_r4, g_r5, g_r6, g_r7, g_r10, g_q0, g_q1, g_q2, p_kk, p_k1, p_n1, p_k2, p_n2, p_k3, p_n3, p_k4, p_n4, p_k5, p_n5, p_k6, p_n6, p_k7, p_n7, p_k8, p_n8, p_k9, p_n9, p_k10, p_n10, p_k11, p_n11, p_k13, p_n13, p_k12, p_r2, p_r4, p_r5, p_r6, p_r7, p_r9, p_r10, p_r11, p_r13, p_r14, p_r15, p_r16, p_h0, n_i8, n_i16, n_0, n_31, n_add, n_sub, n_mul, n_neg, n_div, n_rem, n_le_t, n_le_f, n_lt_t, n_lt_f, n_eq_t, n_eq_f, n_cl, n_gd, n_gdt, n_nz, Int.reduceToNat, Int.reduceAdd, Int.reduceSub, Int.reduceMul, Int.reduceNeg, Int.reduceLT, Int.reduceLE, Int.reduceEq, Int.reduceDiv, Int.reduceMod, Nat.reduceAdd, Nat.reduceMul, ↓reduceIte]
  | succ m ih =>
    intro F i s h1 h2 h3 hi hF
    obtain ⟨F, rfl⟩ : ∃ F', F = F' + 1 := ⟨F - 1, by omega⟩
    have hn := (h1 p 8 (by omega)).trans h8
    have ecl : (Int32.ofInt (i : Int)).toNatClampNeg = i := by rw [n_cl (by omega) (by omega)]; omega
    have hv : s.1 (p + 8) i = s0.1 (p + 8) i := h1 _ _ (by omega)
    have hfr : ∀ a k : Nat, ¬ (a = o + 2 ∧ k = i) → (uI s (o + 2) i (s0.1 (p + 8) i)).1 a k = s.1 a k := fun a k x => by (simp only [ua, ja, u_2, u_3, j_1, j_3]; (repeat' split) <;> first | rfl | (exfalso; omega))
    obtain ⟨s', q1, q2, q3, q4⟩ := ih F (i + 1) (uI s (o + 2) i (s0.1 (p + 8) i)) (fun a k x => (hfr a k (by omega)).trans (h1 a k x)) (fun j hj => by
      by_cases e : j = i
      · subst e; rw [u_eq]
      · exact (hfr (o + 2) j (by omega)).trans (h2 j (by omega))) h3 (by omega) (by omega)
    refine ⟨s', ?_, q2, q3, q4⟩
    rw [← q1, f_X3_begin_L41, show ((i + 1 : Nat) : Int) = (i : Int) + 1 by omega]
    simp (disch := omega) only [hn, ecl, hv, g_kk, g_k1, g_n1, g_k2, g_n2, g_k3, g_n3, g_k4, g_n4, g_k5, g_n5, g_k7, g_n7, g_k8, g_n8, g_k9, g_n9, g_k6, g_r3, g_r4, g_r5, g_r6, g_r7, g_r10, g_q0, g_q1, g_q2, p_kk, p_k1, p_n1, p_k2, p_n2, p_k3, p_n3, p_k4, p_n4, p_k5, p_n5, p_k6, p_n6, p_k7, p_n7, p_k8, p_n8, p_k9, p_n9, p_k10, p_n10, p_k11, p_n11, p_k13, p_n13, p_k12, p_r2, p_r4, p_r5, p_r6, p_r7, p_r9, p_r10, p_r11, p_r13, p_r14, p_r15, p_r16, p_h0, n_i8, n_i16, n_0, n_31, n_add, n_sub, n_mul, n_neg, n_div, n_rem, n_le_t, n_le_f, n_lt_t, n_lt_f, n_eq_t, n_eq_f, n_cl, n_gd, n_gdt, n_nz, Int.reduceToNat, Int.reduceAdd, Int.reduceSub, Int.reduceMul, Int.reduceNeg, Int.reduceLT, Int.reduceLE, Int.reduceEq, Int.reduceDiv, Int.reduceMod, Nat.reduceAdd, Nat.reduceMul, ↓reduceIte, ltd, bnd]
theorem bg_F (ho : o = 36 ∨ o = 46) (hp : p = 6 ∨ p = 20) (K : Nat → ST → Option ST) (s0 : ST) {C : Nat} (hC : C ≤ 6) (h8 : s0.1 p 12 = Int32.ofInt (C : Int)) : ∀ (m F i : Nat) (s : ST), (∀ a k : Nat, ¬ a = o + 3 → s.1 a k = s0.1 a k) → (∀ j : Nat, j < i → s.1 (o + 3) j = s0.1 (p + 10) j) → s.2 = s0.2 → i + m = C → m < F → ∃ s', f_X3_begin_L69 K F o p (Int32.ofInt (i : Int)) s = K o s' ∧ (∀ a k : Nat, ¬ a = o + 3 → s'.1 a k = s0.1 a k) ∧ (∀ j : Nat, j < C → s'.1 (o + 3) j = s0.1 (p + 10) j) ∧ s'.2 = s0.2 := by
  intro m
  induction m with
  | zero =>
    intro F i s h1 h2 h3 hi hF
    obtain ⟨F, rfl⟩ : ∃ F', F = F' + 1 := ⟨F - 1, by omega⟩
    have e : i = C := by omega
    subst e
    have hn := (h1 p 12 (by omega)).trans h8
    refine ⟨s, ?_, h1, h2, h3⟩
    simp (disch := omega) only [f_X3_begin_L69, hn, g_kk, g_k1, g_n1, g_k2, g_n2, g_k3, g_n3, g_k4, g_n4, g_k5, g_n5, g_k7, g_n7, g_k8, g_n8, g_k9, g_n9, g_k6, g_r3, g_r4, g_r5, g_r6, g_r7, g_r10, g_q0, g_q1, g_q2, p_kk, p_k1, p_n1, p_k2, p_n2, p_k3, p_n3, p_k4, p_n4, p_k5, p_n5, p_k6, p_n6, p_k7, p_n7, p_k8, p_n8, p_k9, p_n9, p_k10, p_n10, p_k11, p_n11, p_k13, p_n13, p_k12, p_r2, p_r4, p_r5, p_r6, p_r7, p_r9, p_r10, p_r11, p_r13, p_r14, p_r15, p_r16, p_h0, n_i8, n_i16, n_0, n_31, n_add, n_sub, n_mul, n_neg, n_div, n_rem, n_le_t, n_le_f, n_lt_t, n_lt_f, n_eq_t, n_eq_f, n_cl, n_gd, n_gdt, n_nz, Int.reduceToNat, Int.reduceAdd, Int.reduceSub, Int.reduceMul, Int.reduceNeg, Int.reduceLT, Int.reduceLE, Int.reduceEq, Int.reduceDiv, Int.reduceMod, Nat.reduceAdd, Nat.reduceMul, ↓reduceIte]
  | succ m ih =>
    intro F i s h1 h2 h3 hi hF
    obtain ⟨F, rfl⟩ : ∃ F', F = F' + 1 := ⟨F - 1, by omega⟩
    have hn := (h1 p 12 (by omega)).trans h8
    have ecl : (Int32.ofInt (i : Int)).toNatClampNeg = i := by rw [n_cl (by omega) (by omega)]; omega
    have hv : s.1 (p + 10) i = s0.1 (p + 10) i := h1 _ _ (by omega)
    have hfr : ∀ a k : Nat, ¬ (a = o + 3 ∧ k = i) → (uI s (o + 3) i (s0.1 (p + 10) i)).1 a k = s.1 a k := fun a k x => by (simp only [ua, ja, u_2, u_3, j_1, j_3]; (repeat' split) <;> first | rfl | (exfalso; omega))
    obtain ⟨s', q1, q2, q3, q4⟩ := ih F (i + 1) (uI s (o + 3) i (s0.1 (p + 10) i)) (fun a k x => (hfr a k (by omega)).trans (h1 a k x)) (fun j hj => by
      by_cases e : j = i
      · subst e; rw [u_eq]
      · exact (hfr (o + 3) j (by omega)).trans (h2 j (by omega))) h3 (by omega) (by omega)
    refine ⟨s', ?_, q2, q3, q4⟩
    rw [← q1, f_X3_begin_L69, show ((i + 1 : Nat) : Int) = (i : Int) + 1 by omega]
    simp (disch := omega) only [hn, ecl, hv, g_kk, g_k1, g_n1, g_k2, g_n2, g_k3, g_n3, g_k4, g_n4, g_k5, g_n5, g_k7, g_n7, g_k8, g_n8, g_k9, g_n9, g_k6, g_r3, g_r4, g_r5, g_r6, g_r7, g_r10, g_q0, g_q1, g_q2, p_kk, p_k1, p_n1, p_k2, p_n2, p_k3, p_n3, p_k4, p_n4, p_k5, p_n5, p_k6, p_n6, p_k7, p_n7, p_k8, p_n8, p_k9, p_n9, p_k10, p_n10, p_k11, p_n11, p_k13, p_n13, p_k12, p_r2, p_r4, p_r5, p_r6, p_r7, p_r9, p_r10, p_r11, p_r13, p_r14, p_r15, p_r16, p_h0, n_i8, n_i16, n_0, n_31, n_add, n_sub, n_mul, n_neg, n_div, n_rem, n_le_t, n_le_f, n_lt_t, n_lt_f, n_eq_t, n_eq_f, n_cl, n_gd, n_gdt, n_nz, Int.reduceToNat, Int.reduceAdd, Int.reduceSub, Int.reduceMul, Int.reduceNeg, Int.reduceLT, Int.reduceLE, Int.reduceEq, Int.reduceDiv, Int.reduceMod, Nat.reduceAdd, Nat.reduceMul, ↓reduceIte, ltd, bnd]
theorem c_begin (ho : o = 36 ∨ o = 46) (hp : p = 6 ∨ p = 20) {s : ST} (hV : DV B G N) (h : CDf B G N p s) : ∃ s', f_X3_begin o p s = some s' ∧ (GT B G o p s' ∧ s'.1 o 1 = Int32.ofInt 0 ∧ DP B (-1) 0 o s') ∧ (∀ a k : Nat, ¬ (o ≤ a ∧ a ≤ o + 5) → s'.1 a k = s.1 a k) ∧ s'.2 = (uR s o 0 p).2 := by
  have hVb := hV.1.2.1
  obtain ⟨hBv, hGv, -, -⟩ := DV_A hV
  obtain ⟨⟨⟨a1, a2, a3, a4, a5, a6, a7⟩, b1⟩, ⟨d1, d2⟩, d3, d4, d5⟩ := h
  have hPB : PB B p s := ⟨⟨a1, a2, a3, a4, a5, a6, a7⟩, b1⟩
  have f1 : ∀ a k : Nat, ¬ (a = o ∧ (k = 1 ∨ k = 2)) → ¬ (a = o + 1 ∧ k < 2) → (uI (uI (uI (uI (uR s o 0 p) o 1 (Int32.ofInt 0)) o 2 (Int32.ofInt 0)) (o + 1) 0 (Int32.ofInt (bD B 0))) (o + 1) 1 (Int32.ofInt (bD B 1))).1 a k = s.1 a k := fun a k x y => by
    rw [show (uI (uI (uI (uI (uR s o 0 p) o 1 (Int32.ofInt 0)) o 2 (Int32.ofInt 0)) (o + 1) 0 (Int32.ofInt (bD B 0))) (o + 1) 1 (Int32.ofInt (bD B 1))).1 a k = (uI (uI (uI (uI s o 1 (Int32.ofInt 0)) o 2 (Int32.ofInt 0)) (o + 1) 0 (Int32.ofInt (bD B 0))) (o + 1) 1 (Int32.ofInt (bD B 1))).1 a k from rfl]
    (simp only [ua, ja, u_2, u_3, j_1, j_3]; (repeat' split) <;> first | rfl | (exfalso; omega))
  have v1 : (uI (uI (uI (uI (uR s o 0 p) o 1 (Int32.ofInt 0)) o 2 (Int32.ofInt 0)) (o + 1) 0 (Int32.ofInt (bD B 0))) (o + 1) 1 (Int32.ofInt (bD B 1))).1 o 1 = Int32.ofInt 0 := by rw [u_no (by omega), u_no (by omega), u_nk (by omega), u_eq]
  have v2 : (uI (uI (uI (uI (uR s o 0 p) o 1 (Int32.ofInt 0)) o 2 (Int32.ofInt 0)) (o + 1) 0 (Int32.ofInt (bD B 0))) (o + 1) 1 (Int32.ofInt (bD B 1))).1 o 2 = Int32.ofInt 0 := by rw [u_no (by omega), u_no (by omega), u_eq]
  have v3 : (uI (uI (uI (uI (uR s o 0 p) o 1 (Int32.ofInt 0)) o 2 (Int32.ofInt 0)) (o + 1) 0 (Int32.ofInt (bD B 0))) (o + 1) 1 (Int32.ofInt (bD B 1))).1 (o + 1) 0 = Int32.ofInt (bD B 0) := by rw [u_nk (by omega), u_eq]
  have v4 : (uI (uI (uI (uI (uR s o 0 p) o 1 (Int32.ofInt 0)) o 2 (Int32.ofInt 0)) (o + 1) 0 (Int32.ofInt (bD B 0))) (o + 1) 1 (Int32.ofInt (bD B 1))).1 (o + 1) 1 = Int32.ofInt (bD B 1) := u_eq _ _ _ _
  have ef : f_X3_begin o p s = f_X3_begin_L41 f_X3_begin_j67 fuel o p (Int32.ofInt 0) (uI (uI (uI (uI (uR s o 0 p) o 1 (Int32.ofInt 0)) o 2 (Int32.ofInt 0)) (o + 1) 0 (Int32.ofInt (bD B 0))) (o + 1) 1 (Int32.ofInt (bD B 1))) := by
    have hdy : dy o 0 = true := by rcases ho with rfl | rfl <;> rfl
    have ec0 : (Int32.ofInt 0).toNatClampNeg = 0 := rfl
    have ec1 : (Int32.ofInt 1).toNatClampNeg = 1 := rfl
    have e1 : (uI (uI (uR s o 0 p) o 1 (Int32.ofInt 0)) o 2 (Int32.ofInt 0)).1 (p + 1) 0 = Int32.ofInt (bD B 0) := by rw [u_no (by omega), u_no (by omega)]; exact d1
    have e2 : (uI (uI (uI (uR s o 0 p) o 1 (Int32.ofInt 0)) o 2 (Int32.ofInt 0)) (o + 1) 0 (Int32.ofInt (bD B 0))).1 (p + 1) 1 = Int32.ofInt (bD B 1) := by rw [u_no (by omega), u_no (by omega), u_no (by omega)]; exact d2
    simp (disch := omega) only [f_X3_begin, hdy, e1, e2, ec0, ec1, n_gdt, g_kk, g_k1, g_n1, g_k2, g_n2, g_k3, g_n3, g_k4, g_n4, g_k5, g_n5, g_k7, g_n7, g_k8, g_n8, g_k9, g_n9, g_k6, g_r3, g_r4, g_r5, g_r6, g_r7, g_r10, g_q0, g_q1, g_q2, p_kk, p_k1, p_n1, p_k2, p_n2, p_k3, p_n3, p_k4, p_n4, p_k5, p_n5, p_k6, p_n6, p_k7, p_n7, p_k8, p_n8, p_k9, p_n9, p_k10, p_n10, p_k11, p_n11, p_k13, p_n13, p_k12, p_r2, p_r4, p_r5, p_r6, p_r7, p_r9, p_r10, p_r11, p_r13, p_r14, p_r15, p_r16, p_h0, n_i8, n_i16, n_0, n_31, n_add, n_sub, n_mul, n_neg, n_div, n_rem, n_le_t, n_le_f, n_lt_t, n_lt_f, n_eq_t, n_eq_f, n_cl, n_gd, n_gdt, n_nz, Int.reduceToNat, Int.reduceAdd, Int.reduceSub, Int.reduceMul, Int.reduceNeg, Int.reduceLT, Int.reduceLE, Int.reduceEq, Int.reduceDiv, Int.reduceMod, Nat.reduceAdd, Nat.reduceMul, ↓reduceIte, ltd, bnd]
  have hL2 : (uI (uI (uI (uI (uR s o 0 p) o 1 (Int32.ofInt 0)) o 2 (Int32.ofInt 0)) (o + 1) 0 (Int32.ofInt (bD B 0))) (o + 1) 1 (Int32.ofInt (bD B 1))).2 = (uR s o 0 p).2 := rfl
  generalize (uI (uI (uI (uI (uR s o 0 p) o 1 (Int32.ofInt 0)) o 2 (Int32.ofInt 0)) (o + 1) 0 (Int32.ofInt (bD B 0))) (o + 1) 1 (Int32.ofInt (bD B 1))) = s1 at *
  obtain ⟨s2, q1, q2, q3, q4⟩ := bg_M ho hp f_X3_begin_j67 s1 (C := (bM B).toNat) (by omega) (by rw [f1 p 8 (by omega) (by omega), a4, show (((bM B).toNat : Nat) : Int) = bM B by omega]) (bM B).toNat fuel 0 s1 (fun _ _ _ => rfl) (fun j hj => by cases hj) rfl (by omega) (by unfold fuel; omega)
  obtain ⟨s3, r1, r2, r3, r4⟩ := bg_F ho hp f_X3_begin_j95 s2 (C := (bF B).toNat) (by omega) (by rw [q2 p 12 (by omega), f1 p 12 (by omega) (by omega), a5, show (((bF B).toNat : Nat) : Int) = bF B by omega]) (bF B).toNat fuel 0 s2 (fun _ _ _ => rfl) (fun j hj => by cases hj) rfl (by omega) (by unfold fuel; omega)
  have g3 : ∀ a k : Nat, ¬ a = o + 2 → ¬ a = o + 3 → s3.1 a k = s1.1 a k := fun a k x y => (r2 a k y).trans (q2 a k x)
  have hP3 : RR s3.2.2 o 0 = some p := by
    rw [r4, q4, hL2]
    rcases ho with rfl | rfl <;> rfl
  have hCp : CDf B G N p s3 := CDf_fr ⟨hPB, ⟨d1, d2⟩, d3, d4, d5⟩ (fun a k x y => (g3 a k (by omega) (by omega)).trans (f1 a k (by omega) (by omega)))
  obtain ⟨s4, t1, t2, t3⟩ := c_settle (o := o) (p := p) (G := G) hBv hGv ho hp hP3 hCp.1 (fun m m0 m1 => by
    have hg := hV.2.2.1.1 m m0 m1
    rw [r2 _ _ (by omega), q3 m.toNat (by omega), f1 _ _ (by omega) (by omega), d3 m m0 m1]
    unfold pl
    rw [if_neg (by omega)])
  refine ⟨s4, ?_, ⟨⟨t2, ?_, fun f f0 f1' => ?_⟩, ?_, ?_, ?_⟩, fun a k x => ?_, ?_⟩
  · have j1 : f_X3_begin_L41 f_X3_begin_j67 fuel o p (Int32.ofInt 0) s1 = f_X3_begin_j67 o p s2 := q1
    have j2 : f_X3_begin_j67 o p s2 = f_X3_begin_j95 o s3 := r1
    rw [ef, j1, j2]
    simp (disch := omega) only [f_X3_begin_j95, ↓bb t1, g_kk, g_k1, g_n1, g_k2, g_n2, g_k3, g_n3, g_k4, g_n4, g_k5, g_n5, g_k7, g_n7, g_k8, g_n8, g_k9, g_n9, g_k6, g_r3, g_r4, g_r5, g_r6, g_r7, g_r10, g_q0, g_q1, g_q2, p_kk, p_k1, p_n1, p_k2, p_n2, p_k3, p_n3, p_k4, p_n4, p_k5, p_n5, p_k6, p_n6, p_k7, p_n7, p_k8, p_n8, p_k9, p_n9, p_k10, p_n10, p_k11, p_n11, p_k13, p_n13, p_k12, p_r2, p_r4, p_r5, p_r6, p_r7, p_r9, p_r10, p_r11, p_r13, p_r14, p_r15, p_r16, p_h0]
  · unfold GS
    rw [t3.1 _ _ (by omega) (by omega) (by omega) (by omega), g3 _ _ (by omega) (by omega), v2, hV.2.2.1.2.2.2.2]
  · rw [t3.1 _ _ (by omega) (by omega) (by omega) (by omega), r3 f.toNat (by omega), q2 _ _ (by omega), f1 _ _ (by omega) (by omega)]
    exact d4 f f0 f1'
  · rw [t3.1 _ _ (by omega) (by omega) (by omega) (by omega), g3 _ _ (by omega) (by omega), v1]
  · rw [t3.1 _ _ (by omega) (by omega) (by omega) (by omega), g3 _ _ (by omega) (by omega), v3]
    rfl
  · rw [t3.1 _ _ (by omega) (by omega) (by omega) (by omega), g3 _ _ (by omega) (by omega), v4]
    rfl
  · rw [t3.1 a k (by omega) (by omega) (by omega) (by omega), g3 a k (by omega) (by omega), f1 a k (by omega) (by omega)]
  · rw [t3.2, r4, q4, hL2]
theorem manS_c {T : Int → Int} {n : Int} {c : Cur} {a : (List Int × Int × Int × Int × Int) × Cur} (h : manS T n B G N c = .ok a) (c0 : 0 ≤ c.1) (cn : c.1 ≤ n) : c.1 ≤ a.2.1 ∧ a.2.1 ≤ n := by
  unfold manS at h
  obtain ⟨x1, h1, h⟩ := eb_v h
  obtain ⟨x2, h2, h⟩ := eb_v h
  obtain ⟨x3, h3, h⟩ := eb_v h
  obtain ⟨x4, h4, h⟩ := eb_v h
  obtain ⟨x5, h5, h⟩ := eb_v h
  obtain ⟨x6, h6, h⟩ := eb_v h
  obtain ⟨x7, h7, h⟩ := eb_v h
  obtain ⟨g1, g1b⟩ := nmS_v h1 c0 cn
  have g2 := tkW_v h2 (by omega) (by omega)
  have g3 : x2.1 ≤ x3.2.1 ∧ x3.2.1 ≤ n := by
    unfold knS at h3
    obtain ⟨y1, k1, h3⟩ := eb_v h3
    obtain ⟨k2, k3, k4⟩ := namS_v k1 (by omega) (by omega)
    have k5 := wd_b k4 (show 0 ≤ x2.1 by omega) (by omega)
    by_cases e : fdx (N 0) y1.1 (bK B).toNat 0 = -1
    · rw [if_pos e] at h3; cases h3
    · rw [if_neg e] at h3
      cases h3
      show x2.1 ≤ y1.2.1 ∧ y1.2.1 ≤ n
      rw [k3]
      omega
  have g4 := tkW_v h4 (by omega) (by omega)
  have g5 := numS_c h5 (by omega) (by omega)
  have g6 := tkW_v h6 (by omega) (by omega)
  have g7 := plcS_v h7 (by omega) (by omega)
  by_cases e : hld B G x7.1.1 x7.1.2.1 = true
  · rw [if_pos e] at h; cases h
  · rw [if_neg e] at h
    cases h
    exact ⟨by show c.1 ≤ x7.2.1; omega, g7.2.2⟩
theorem stm_c {T : Int → Int} {n : Int} {D : DRF} {c : Cur} {d : DRF × Cur} (h : stmS T n D c = .ok d) (c0 : 0 ≤ c.1) (cn : c.1 ≤ n) : c.1 ≤ d.2.1 ∧ d.2.1 ≤ n := by
  unfold stmS at h
  by_cases e1 : isWL T n c (WDl 4) = true
  · rw [if_pos e1] at h
    have hwb := wd_b (isWL_W e1) c0 cn
    by_cases e : bK D.1 = 5
    · rw [if_pos e] at h; cases h
    · rw [if_neg e] at h
      obtain ⟨a, g1, g2⟩ := eb_v h
      cases g2
      have v1 := (kndS_v g1 (by omega) (by omega)).2
      exact ⟨by show c.1 ≤ a.2.1; omega, v1.2⟩
  · rw [if_neg e1] at h
    by_cases e2 : isWL T n c (WDl 9) = true
    · rw [if_pos e2] at h
      have hwb := wd_b (isWL_W e2) c0 cn
      by_cases e : bM D.1 = 8
      · rw [if_pos e] at h; cases h
      · rw [if_neg e] at h
        obtain ⟨a, g1, g2⟩ := eb_v h
        cases g2
        have v1 := manS_c g1 (by omega) (by omega)
        exact ⟨by show c.1 ≤ a.2.1; omega, v1.2⟩
    · rw [if_neg e2] at h
      by_cases e3 : isWL T n c (WDl 13) = true
      · rw [if_pos e3] at h
        have hwb := wd_b (isWL_W e3) c0 cn
        by_cases e : bF D.1 = 6
        · rw [if_pos e] at h; cases h
        · rw [if_neg e] at h
          obtain ⟨a, g1, g2⟩ := eb_v h
          cases g2
          have v1 := (fldS_v g1 (by omega) (by omega)).2
          exact ⟨by show c.1 ≤ a.2.1; omega, v1.2⟩
      · rw [if_neg e3] at h
        by_cases e4 : isWL T n c (WDl 15) = true
        · rw [if_pos e4] at h
          have hwb := wd_b (isWL_W e4) c0 cn
          by_cases e : bHm D.1 = -1
          · rw [if_pos e] at h
            obtain ⟨a, g1, g2⟩ := eb_v h
            cases g2
            obtain ⟨l1, l2, l3⟩ := sumT_l g1 (by omega) (by omega)
            exact ⟨by show c.1 ≤ a.2.1; omega, l3⟩
          · rw [if_neg e] at h; cases h
        · rw [if_neg e4] at h
          by_cases e5 : isWL T n c (WDl 16) = true
          · rw [if_pos e5] at h
            have hwb := wd_b (isWL_W e5) c0 cn
            obtain ⟨a, g1, g2⟩ := eb_v h
            cases g2
            have v := numS_c g1 (by omega) (by omega)
            exact ⟨by show c.1 ≤ a.2.1; omega, v.2⟩
          · rw [if_neg e5] at h
            obtain ⟨c1, g0, h⟩ := eb_v h
            obtain ⟨a, g1, g2⟩ := eb_v h
            cases g2
            have w := tkW_v g0 c0 cn
            have v := numS_c g1 (by omega) (by omega)
            exact ⟨by show c.1 ≤ a.2.1; omega, v.2⟩
theorem tel_DV {T : Int → Int} {n : Int} (n16 : n ≤ 1600) : ∀ (k : Nat) (st : Int) (D : DRF) (c : Cur) (a : Int × DRF), DV D.1 D.2.1 D.2.2 → 0 ≤ c.1 → c.1 ≤ n → telL T n k st D c = .ok a → DV a.2.1 a.2.2.1 a.2.2.2
  | 0, st, D, c, a, hV, c0, cn, h => by
    unfold telL at h
    split at h
    · cases h
    · cases h; exact hV
  | k + 1, st, D, c, a, hV, c0, cn, h => by
    unfold telL at h
    split at h
    · obtain ⟨b, h1, h2⟩ := eb_v h
      unfold stm1 at h1
      obtain ⟨d, h3, h4⟩ := eb_v h1
      obtain ⟨c', h5, h6⟩ := eb_v h4
      have hd := stm_c h3 c0 cn
      have hs := tkS_v h5 (by omega) (by omega)
      cases h6
      exact tel_DV n16 k (st + 1) d.1 c' a (stm_DV hV c0 cn n16 h3) (by omega) hs.2 h2
    · cases h; exact hV
theorem brd_DV {T : Int → Int} {n : Int} (n0 : 0 ≤ n) (n16 : n ≤ 1600) {a : Int × DRF} (h : brdS T n = .ok a) : DV a.2.1 a.2.2.1 a.2.2.2 := by
  unfold brdS at h
  obtain ⟨b, h1, h2⟩ := eb_v h
  obtain ⟨c, h3, h4⟩ := eb_v h2
  unfold sizS at h1
  obtain ⟨x1, g1, h1⟩ := eb_v h1
  obtain ⟨x2, g2, h1⟩ := eb_v h1
  obtain ⟨x3, g3, h1⟩ := eb_v h1
  obtain ⟨x4, g4, h1⟩ := eb_v h1
  obtain ⟨x5, g5, h1⟩ := eb_v h1
  obtain ⟨x6, g6, h1⟩ := eb_v h1
  obtain ⟨x7, g7, h1⟩ := eb_v h1
  obtain ⟨x8, g8, h1⟩ := eb_v h1
  cases h1
  have c1 := tkW_v g1 (by show (0 : Int) ≤ 0; omega) n0
  have c1' : 0 ≤ x1.1 := c1.1
  have c2 := numS_c g2 (by omega) (by omega)
  have c3 := tkW_v g3 (by omega) (by omega)
  have c4 := numS_c g4 (by omega) (by omega)
  have c5 := tkW_v g5 (by omega) (by omega)
  have c6 := numS_c g6 (by omega) (by omega)
  have c7 := tkW_v g7 (by omega) (by omega)
  have c8 := numS_c g8 (by omega) (by omega)
  have c9 := tkS_v h3 (by show 0 ≤ x8.2.1; omega) (by show x8.2.1 ≤ n; omega)
  have c9a : x8.2.1 < c.1 := c9.1
  exact tel_DV n16 59 1 _ c a (bz_DV (numS_v g2).2.2.1 (numS_v g4).2.2.1 (numS_v g6).2.2.1 (numS_v g8).2.2.1) (by omega) c9.2 h4
theorem c_boardC {T : Int → Int} {n : Int} {p0 : Nat} (hp0 : p0 = 6 ∨ p0 = 20) {s : ST} (hT : CT T n s) (h3 : RR s.2.2 0 3 = some p0) (h4 : RR s.2.2 0 4 = some (26 - p0)) : ∃ v s', f_X9_board s = some (v, s') ∧ s'.1 1 1 = Int32.ofInt 0 ∧ s'.2.1 = s.2.1 ∧ RQ (brdS T n) (fun a => v = Int32.ofInt a.1 ∧ (CDf a.2.1 a.2.2.1 a.2.2.2 (26 - p0) s' ∧ GT a.2.1 a.2.2.1 36 (26 - p0) s' ∧ s'.1 36 1 = Int32.ofInt 0 ∧ DP a.2.1 (-1) 0 36 s') ∧ (RR s'.2.2 0 3 = some (26 - p0) ∧ RR s'.2.2 0 4 = some p0 ∧ RR s'.2.2 46 0 = some (26 - p0)) ∧ (s'.1 56 1 = Int32.ofInt 0 ∧ s'.1 56 3 = Int32.ofInt 0 ∧ s'.1 0 11 = Int32.ofInt 0 ∧ s'.1 0 13 = Int32.ofInt 0 ∧ s'.1 0 14 = Int32.ofInt (-1)) ∧ (∀ o k : Nat, ¬ (o ≤ 56) → s'.1 o k = s.1 o k) ∧ (∀ k : Nat, ¬ k = 11 → ¬ k = 13 → ¬ k = 14 → s'.1 0 k = s.1 0 k)) (fun k q => v = Int32.ofInt (-1) ∧ (s'.1 0 13 = Int32.ofInt k ∧ s'.1 0 14 = Int32.ofInt q ∧ s'.1 61 1 = s.1 61 1 + Int32.ofInt 1) ∧ (∀ o k : Nat, ¬ o = 1 → ¬ o = 3 → ¬ (26 - p0 ≤ o ∧ o ≤ 39 - p0) → ¬ (o = 5 ∧ k = 2) → ¬ (o = 0 ∧ (k = 13 ∨ k = 14)) → ¬ (o = 61 ∧ k = 1) → s'.1 o k = s.1 o k) ∧ ∀ j : Nat, ¬ j = 4 → s'.2.2 j = s.2.2 j) := by
  obtain ⟨q, hq, hq0⟩ : ∃ q : Nat, q = 26 - p0 ∧ (q = 6 ∨ q = 20) := ⟨26 - p0, rfl, by omega⟩
  rw [← hq] at h4 ⊢
  obtain ⟨v, s1, q1, p1, r1⟩ := c_tellB hq0 hT
  have f2 : ∀ o k : Nat, ¬ (o = 1 ∧ k = 1) → ¬ (o = 0 ∧ (k = 13 ∨ k = 14)) → (uI (uI (uI s1 1 1 (Int32.ofInt 0)) 0 13 (s1.1 3 5)) 0 14 (s1.1 3 6)).1 o k = s1.1 o k := fun o k x y => by (simp only [ua, ja, u_2, u_3, j_1, j_3]; (repeat' split) <;> first | rfl | (exfalso; omega))
  have hnf : f_X9_noteFault (uI s1 1 1 (Int32.ofInt 0)) = some (uI (uI (uI s1 1 1 (Int32.ofInt 0)) 0 13 (s1.1 3 5)) 0 14 (s1.1 3 6)) := by
    unfold f_X9_noteFault
    rw [ltd, u_no (show ¬ (3 : Nat) = 1 by omega), u_no (show ¬ (3 : Nat) = 0 by omega), u_no (show ¬ (3 : Nat) = 1 by omega)]
  have v13 : (uI (uI (uI s1 1 1 (Int32.ofInt 0)) 0 13 (s1.1 3 5)) 0 14 (s1.1 3 6)).1 0 13 = s1.1 3 5 := by rw [u_nk (by omega), u_eq]
  have v14 : (uI (uI (uI s1 1 1 (Int32.ofInt 0)) 0 13 (s1.1 3 5)) 0 14 (s1.1 3 6)).1 0 14 = s1.1 3 6 := u_eq _ _ _ _
  have v11 : (uI (uI (uI s1 1 1 (Int32.ofInt 0)) 0 13 (s1.1 3 5)) 0 14 (s1.1 3 6)).1 1 1 = Int32.ofInt 0 := by rw [u_no (by omega), u_no (by omega), u_eq]
  have l2 : (uI (uI (uI s1 1 1 (Int32.ofInt 0)) 0 13 (s1.1 3 5)) 0 14 (s1.1 3 6)).2 = s1.2 := rfl
  have sl : ∀ j : Nat, ¬ j = 4 → s1.2.2 j = s.2.2 j := p1.2.2
  have R3 : RR s1.2.2 0 3 = some p0 := by rw [← h3]; exact sl 0 (by omega)
  have R4 : RR s1.2.2 0 4 = some q := by rw [← h4]; exact sl 1 (by omega)
  generalize hs2 : (uI (uI (uI s1 1 1 (Int32.ofInt 0)) 0 13 (s1.1 3 5)) 0 14 (s1.1 3 6)) = s2 at *
  cases eB : brdS T n with
  | error x =>
    rw [eB] at r1
    have r1 : CD x.1 x.2 s1 := r1
    have hne : ¬ s2.1 0 13 = 0 := by
      rw [v13, r1.1, n_0, n_eq (by have := r1.2.2.2; omega) (by have := r1.2.2.2; omega) (by omega) (by omega)]
      have := r1.2.2.2
      omega
    have h61 : s2.1 61 1 = s.1 61 1 := (f2 61 1 (by omega) (by omega)).trans (p1.1 61 1 (by omega) (by omega) (by omega))
    have f3 : ∀ o k : Nat, ¬ (o = 61 ∧ k = 1) → (uI s2 61 1 (s.1 61 1 + Int32.ofInt 1)).1 o k = s2.1 o k := fun o k z => by
      by_cases y : o = 61
      · exact u_nk (by omega)
      · exact u_no y
    have hrf : f_X9_refuse (Int32.ofInt 1) s2 = some (Int32.ofInt (-1), uI s2 61 1 (s.1 61 1 + Int32.ofInt 1)) := by
      have ec1 : (Int32.ofInt 1).toNatClampNeg = 1 := rfl
      unfold f_X9_refuse
      rw [n_gd (by omega) (by omega) (by omega), n_gd (by omega) (by omega) (by omega), ltd, ec1, h61]
    have hne' : (s2.1 0 13 = Int32.ofInt 0) = False := eq_false hne
    refine ⟨Int32.ofInt (-1), uI s2 61 1 (s.1 61 1 + Int32.ofInt 1), ?_, ?_, ?_, rfl, ⟨?_, ?_, u_eq _ _ _ _⟩, fun o k z1 z2 z3 z4 z5 z6 => ?_, fun j hj => ?_⟩
    · simp (disch := omega) only [f_X9_board, ↓bb h4, ↓bb q1, ↓bb hnf, hne', ↓bb hrf, n_i8, n_i16, n_0, n_31, n_add, n_sub, n_mul, n_neg, n_div, n_rem, n_le_t, n_le_f, n_lt_t, n_lt_f, n_eq_t, n_eq_f, n_cl, n_gd, n_gdt, n_nz, Int.reduceToNat, Int.reduceAdd, Int.reduceSub, Int.reduceMul, Int.reduceNeg, Int.reduceLT, Int.reduceLE, Int.reduceEq, Int.reduceDiv, Int.reduceMod, Nat.reduceAdd, Nat.reduceMul, ↓reduceIte, ltd]
    · rw [f3 1 1 (by omega)]; exact v11
    · show s2.2.1 = s.2.1
      rw [l2]; exact p1.2.1
    · rw [f3 0 13 (by omega), v13]; exact r1.1
    · rw [f3 0 14 (by omega), v14]; exact r1.2.1
    · rw [f3 o k z6, f2 o k (by omega) z5]; exact p1.1 o k z2 (by omega) z4
    · show s2.2.2 j = s.2.2 j
      rw [l2]; exact sl j hj
  | ok a =>
    rw [eB] at r1
    obtain ⟨w1, w2, w3⟩ := (r1 : v = Int32.ofInt a.1 ∧ CDf a.2.1 a.2.2.1 a.2.2.2 q s1 ∧ C0k s1)
    have hV := brd_DV hT.2.1.1 hT.2.1.2 eB
    have h0 : s2.1 0 13 = Int32.ofInt 0 := v13.trans w3.1
    have hm1 : s2.1 0 14 = Int32.ofInt (-1) := v14.trans w3.2
    have hD2 : CDf a.2.1 a.2.2.1 a.2.2.2 q (uR (uR s2 0 4 p0) 0 3 q) := CDf_fr w2 (fun o k x y => f2 o k (by omega) (by omega))
    obtain ⟨s3, b1, b2, b3, b4⟩ := c_begin (o := 36) (Or.inl rfl) hq0 hV hD2
    have hD3 : CDf a.2.1 a.2.2.1 a.2.2.2 q s3 := CDf_fr hD2 (fun o k x y => b3 o k (by omega))
    obtain ⟨s4, d1, d2, d3, d4⟩ := c_begin (o := 46) (Or.inr rfl) hq0 hV hD3
    have f5 : ∀ o k : Nat, ¬ (o = 56 ∧ (k = 1 ∨ k = 3)) → ¬ (o = 0 ∧ k = 11) → (uI (uI (uI s4 56 1 (Int32.ofInt 0)) 56 3 (Int32.ofInt 0)) 0 11 (Int32.ofInt 0)).1 o k = s4.1 o k := fun o k x y => by (simp only [ua, ja, u_2, u_3, j_1, j_3]; (repeat' split) <;> first | rfl | (exfalso; omega))
    have f4 : ∀ o k : Nat, ¬ (36 ≤ o ∧ o ≤ 51) → s4.1 o k = s2.1 o k := fun o k x => (d3 o k (by omega)).trans (b3 o k (by omega))
    have e4 : s4.2 = (uR (uR (uR (uR s2 0 4 p0) 0 3 q) 36 0 q) 46 0 q).2 := by
      rw [d4]
      show ((s3.2.1, fun j => if j = slot 46 0 then some q else s3.2.2 j) : _ × _) = _
      rw [b4]
      rfl
    have hGT : GT a.2.1 a.2.2.1 36 q (uI (uI (uI s4 56 1 (Int32.ofInt 0)) 56 3 (Int32.ofInt 0)) 0 11 (Int32.ofInt 0)) := by
      obtain ⟨g1, g2, g3⟩ := b2.1
      have hfa : ∀ o k : Nat, (q ≤ o ∧ o ≤ q + 13) ∨ (36 ≤ o ∧ o ≤ 45) → (uI (uI (uI s4 56 1 (Int32.ofInt 0)) 56 3 (Int32.ofInt 0)) 0 11 (Int32.ofInt 0)).1 o k = s3.1 o k := fun o k x => (f5 o k (by omega) (by omega)).trans (d3 o k (by omega))
      obtain ⟨g4, g5, g6, g7, g8⟩ := g1
      refine ⟨⟨g4, g5, ?_, ?_, ?_⟩, ?_, fun f f0 f1 => ?_⟩
      · show RR s4.2.2 36 0 = some q
        rw [e4]
        rfl
      · exact (CDf_fr hD3 (fun o k x y => hfa o k (by omega))).1
      · obtain ⟨y1, y2, ⟨y3, y4⟩, y5, y6⟩ := g8
        exact ⟨fun m m0 m1 => (hfa _ _ (by omega)).trans (y1 m m0 m1), fun m m0 m1 => (hfa _ _ (by omega)).trans (y2 m m0 m1), ⟨(hfa _ _ (by omega)).trans y3, (hfa _ _ (by omega)).trans y4⟩, (hfa _ _ (by omega)).trans y5, (hfa _ _ (by omega)).trans y6⟩
      · exact (hfa _ _ (by omega)).trans g2
      · exact (hfa _ _ (by omega)).trans (g3 f f0 f1)
    refine ⟨Int32.ofInt a.1, uI (uI (uI s4 56 1 (Int32.ofInt 0)) 56 3 (Int32.ofInt 0)) 0 11 (Int32.ofInt 0), ?_, ?_, ?_, rfl, ⟨?_, hGT, ?_, ?_⟩, ⟨?_, ?_, ?_⟩, ⟨?_, ?_, u_eq _ _ _ _, ?_, ?_⟩, fun o k x => ?_, fun k x1 x2 x3 => ?_⟩
    · have hfg : f_X0_forget s4 = some (uI (uI s4 56 1 (Int32.ofInt 0)) 56 3 (Int32.ofInt 0)) := rfl
      have R3' : RR s2.2.2 0 3 = some p0 := by rw [l2]; exact R3
      have R4' : RR s2.2.2 0 4 = some q := by rw [l2]; exact R4
      subst w1
      simp (disch := omega) only [f_X9_board, ↓bb h4, ↓bb q1, ↓bb hnf, h0, ↓bb R3', ↓bb R4', ↓bb b1, ↓bb d1, ↓bb hfg, n_i8, n_i16, n_0, n_31, n_add, n_sub, n_mul, n_neg, n_div, n_rem, n_le_t, n_le_f, n_lt_t, n_lt_f, n_eq_t, n_eq_f, n_cl, n_gd, n_gdt, n_nz, Int.reduceToNat, Int.reduceAdd, Int.reduceSub, Int.reduceMul, Int.reduceNeg, Int.reduceLT, Int.reduceLE, Int.reduceEq, Int.reduceDiv, Int.reduceMod, Nat.reduceAdd, Nat.reduceMul, ↓reduceIte, ltd]
    · rw [f5 1 1 (by omega) (by omega), f4 1 1 (by omega)]; exact v11
    · show s4.2.1 = s.2.1
      rw [e4]
      show s2.2.1 = s.2.1
      rw [l2]; exact p1.2.1
    · exact CDf_fr hD3 (fun o k x y => (f5 o k (by omega) (by omega)).trans (d3 o k (by omega)))
    · rw [f5 36 1 (by omega) (by omega), d3 36 1 (by omega)]; exact b2.2.1
    · obtain ⟨y1, y2⟩ := b2.2.2
      exact ⟨(f5 _ _ (by omega) (by omega)).trans ((d3 _ _ (by omega)).trans y1), (f5 _ _ (by omega) (by omega)).trans ((d3 _ _ (by omega)).trans y2)⟩
    · show RR s4.2.2 0 3 = some q
      rw [e4]; rfl
    · show RR s4.2.2 0 4 = some p0
      rw [e4]; rfl
    · show RR s4.2.2 46 0 = some q
      rw [e4]; rfl
    · rw [u_no (by omega), u_nk (by omega), u_eq]
    · rw [u_no (by omega), u_eq]
    · rw [f5 0 13 (by omega) (by omega), f4 0 13 (by omega)]; exact h0
    · rw [f5 0 14 (by omega) (by omega), f4 0 14 (by omega)]; exact hm1
    · rw [f5 o k (by omega) (by omega), f4 o k (by omega), f2 o k (by omega) (by omega)]; exact p1.1 o k (by omega) (by omega) (by omega)
    · rw [f5 0 k (by omega) (by omega), f4 0 k (by omega), f2 0 k (by omega) (by omega)]; exact p1.1 0 k (by omega) (by omega) (by omega)
