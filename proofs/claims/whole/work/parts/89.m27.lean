/-! L3: images and seen rows of the reference -/
theorem fm_len {f : Int → List Int} (hf : ∀ i, (f i).length = 2) : ∀ (l : List Int), (l.flatMap f).length = 2 * l.length
  | [] => rfl
  | i :: l => by rw [List.flatMap_cons, List.length_append, hf, fm_len hf l, List.length_cons]; omega
theorem im0_len {B : Brd} {G : Gam} (hM0 : 0 ≤ bM B) (hF0 : 0 ≤ bF B) : ((im0 B G).length : Int) = 3 + 2 * bM B + 2 * bF B := by
  unfold im0 mens flds
  rw [List.length_append, List.length_append, fm_len (fun i => rfl), fm_len (fun i => rfl), upto_len, upto_len]
  show ((3 + 2 * (bM B).toNat + 2 * (bF B).toNat : Nat) : Int) = _
  omega
theorem im0_b {B : Brd} {G : Gam} (hB : Bv B) (hG : Gv B G) : ∀ v ∈ im0 B G, 0 ≤ v ∧ v ≤ 255 := by
  have hM0 : 0 ≤ bM B := hB.1.1.2.2.2.2.2.2.1
  have hF0 : 0 ≤ bF B := hB.1.1.2.2.2.2.2.2.2.2.1
  have hWW : bW B ≤ 5 := hB.1.1.2.1
  have hHH : bH B ≤ 5 := hB.1.1.2.2.2.1
  intro v hv
  unfold im0 at hv
  have hd := hG.1
  rcases List.mem_append.mp hv with hv | hv
  · rcases List.mem_append.mp hv with hv | hv
    · simp only [List.mem_cons, List.not_mem_nil, or_false] at hv
      rcases hv with rfl | rfl | rfl <;> omega
    · obtain ⟨m, hm, hv⟩ := List.mem_flatMap.mp hv
      rw [mem_mens hM0] at hm
      have hg := hG.2.1 m hm.1 hm.2
      simp only [imM, List.mem_cons, List.not_mem_nil, or_false] at hv
      unfold b255 at hv
      rcases hv with rfl | rfl <;> split <;> omega
  · obtain ⟨f, hf, hv⟩ := List.mem_flatMap.mp hv
    unfold flds at hf
    rw [mem_upto] at hf
    have hg := hG.2.2.2 f hf.1 (by omega)
    simp only [imF, List.mem_cons, List.not_mem_nil, or_false] at hv
    rcases hv with rfl | rfl <;> omega
theorem m_image {B : Brd} {G : Gam} {s : ST} (h : MA B G s) : ∃ s', f_X10_image s = some (Int32.ofInt ((img B G).length : Int), s') ∧ WR (img B G) s' ∧ WF s s' := by
  have hF0 : 0 ≤ bF B := h.1.1.1.2.2.2.2.2.2.2.2.1
  have hF6 : bF B ≤ 6 := h.1.1.1.2.2.2.2.2.2.2.2.2
  have hM : bM B ≤ 8 := h.1.1.1.2.2.2.2.2.2.2.1; have hM0 : 0 ≤ bM B := h.1.1.1.2.2.2.2.2.2.1
  have hd := m_day h
  have hs := m_side h
  have hdd := h.2.1.1
  have f0 : WF s (uI s 65 121 (Int32.ofInt 0)) := ⟨fun o k a b => by (simp only [ua, ja, u_2, u_3, j_1, j_3]; (repeat' split) <;> first | rfl | (exfalso; omega)), rfl⟩
  have w0 : WR [] (uI s 65 121 (Int32.ofInt 0)) := ⟨u_eq _ _ _ _, fun j hj => by cases hj⟩
  obtain ⟨s1, q1, q2, q3⟩ := m_writes w0 (by decide) (gd_ G / 256)
  obtain ⟨s2, q4, q5, q6⟩ := m_writes q2 (by simp) (gd_ G % 256)
  obtain ⟨s3, q7, q8, q9⟩ := m_writes q5 (by simp) (gs G)
  have f3 := ((f0.tr q3).tr q6).tr q9
  obtain ⟨s4, r1, r2, r3⟩ := m_image_m f_X10_image_j91 (bM B).toNat fuel 0 _ s3 (MA_WF h f3) q8 (by omega) (by omega) (by unfold fuel; omega) (by simp only [List.length_append, List.length_singleton, List.length_nil]; omega)
  have f4 := f3.tr r1
  have l4 : (([] ++ [gd_ G / 256] ++ [gd_ G % 256] ++ [gs G] ++ (upto (bM B).toNat 0).flatMap (imM G)).length : Int) = 3 + 2 * bM B := by
    rw [List.length_append, fm_len (fun i => rfl), upto_len]
    simp only [List.length_append, List.length_singleton, List.length_nil]
    omega
  obtain ⟨s5, t1, t2, t3⟩ := m_image_f f_X10_image_j141 (bF B).toNat fuel 0 _ s4 (MA_WF h f4) r2 (by omega) (by omega) (by unfold fuel; omega) (by rw [l4]; omega)
  have f5 := f4.tr t1
  have e5 : [] ++ [gd_ G / 256] ++ [gd_ G % 256] ++ [gs G] ++ (upto (bM B).toNat 0).flatMap (imM G) ++ (upto (bF B).toNat 0).flatMap (imF G) = im0 B G := rfl
  rw [e5] at t2
  have hl := im0_len (G := G) hM0 hF0
  have hck := m_checked (o := 149) rfl (N := 32) rfl (by omega) t2.2 (im0_b h.1 h.2.1) (by omega)
  obtain ⟨s6, u1, u2, u3⟩ := m_writes t2 (by omega) (mrk (im0 B G))
  refine ⟨s6, ?_, u2, f5.tr u3⟩
  have d0 : (uI s 65 121 (Int32.ofInt 0)).1 112 0 = Int32.ofInt (gd_ G) := by rw [u_no (by omega)]; exact hd
  have d1 : s1.1 112 0 = Int32.ofInt (gd_ G) := ((f0.tr q3).1 112 0 (by omega) (by omega)).trans hd
  have d2 : s2.1 112 1 = Int32.ofInt (gs G) := (((f0.tr q3).tr q6).1 112 1 (by omega) (by omega)).trans hs
  have hR : gd_ G - gd_ G / 256 * 256 = gd_ G % 256 := n_rem _ _
  have hz : f_X10_image_L45 f_X10_image_j91 fuel (Int32.ofInt 0) s3 = f_X10_image_j91 s4 := r3
  have hz2 : f_X10_image_j91 s4 = f_X10_image_j141 s5 := t3
  have hz3 := u2.1
  have hz4 := t2.1
  have hz5 : f_X10_image_j141 s5 = some (Int32.ofInt ((img B G).length : Int), s6) := by
    have hz3 : s6.1 65 121 = Int32.ofInt ((img B G).length : Int) := hz3
    simp (disch := omega) only [f_X10_image_j141, hz4, hck, u1, hz3, ltd, bnd]
  simp (disch := omega) only [f_X10_image, d0, d1, d2, hR, q1, q4, q7, hz, hz2, hz5, n_i8, n_i16, n_0, n_31, n_add, n_sub, n_mul, n_neg, n_div, n_rem, n_le_t, n_le_f, n_lt_t, n_lt_f, n_eq_t, n_eq_f, n_cl, n_gd, n_gdt, n_nz, Int.reduceToNat, Int.reduceAdd, Int.reduceSub, Int.reduceMul, Int.reduceNeg, Int.reduceLT, Int.reduceLE, Int.reduceEq, Int.reduceDiv, Int.reduceMod, Nat.reduceAdd, Nat.reduceMul, ↓reduceIte, ltd, bnd, Int.toNat_zero, Int.toNat_one]
/-! seen rows -/
def seeOK (B : Brd) (T : Int → Int) (n : Int) : Prop := (0 < n ∧ n % 3 = 0 ∧ n / 3 ≤ 16) ∧ ∀ i : Int, 0 ≤ i → i < n / 3 → T (3 * i) < bF B
theorem m_see_1 {B : Brd} {G : Gam} {T : Int → Int} {n : Int} {s : ST} (h : MA B G s) (hT : ∀ j : Int, 0 ≤ j → j < n → s.1 66 j.toNat = Int32.ofInt (T j) ∧ 0 ≤ T j ∧ T j ≤ 255) (n0 : 0 ≤ n) (n1 : n ≤ 48) (n3 : n % 3 = 0) (K : Int32 → Int32 → ST → Option (Int32 × ST)) : ∀ (c F : Nat) (i : Int), 0 ≤ i → 3 * (c : Int) = n - 3 * i → c < F → f_X10_see_L36 K F (Int32.ofInt n) (Int32.ofInt 1) (Int32.ofInt (3 * i)) s = K (Int32.ofInt n) (bI ((upto c i).all (fun j => decide (T (3 * j) < bF B)))) s := by
  intro c
  induction c with
  | zero =>
    intro F i h0 hn hF
    obtain ⟨F, rfl⟩ : ∃ F', F = F' + 1 := ⟨F - 1, by omega⟩
    simp (disch := omega) only [f_X10_see_L36, upto, List.all_nil, bI_t, n_i8, n_i16, n_0, n_31, n_add, n_sub, n_mul, n_neg, n_div, n_rem, n_le_t, n_le_f, n_lt_t, n_lt_f, n_eq_t, n_eq_f, n_cl, n_gd, n_gdt, n_nz, Int.reduceToNat, Int.reduceAdd, Int.reduceSub, Int.reduceMul, Int.reduceNeg, Int.reduceLT, Int.reduceLE, Int.reduceEq, Int.reduceDiv, Int.reduceMod, Nat.reduceAdd, Nat.reduceMul, ↓reduceIte]
  | succ c ih =>
    intro F i h0 hn hF
    obtain ⟨F, rfl⟩ : ∃ F', F = F' + 1 := ⟨F - 1, by omega⟩
    obtain ⟨F, rfl⟩ : ∃ F', F = F' + 1 := ⟨F - 1, by omega⟩
    have ht := hT (3 * i) (by omega) (by omega)
    have hj := m_isField h (m := T (3 * i)) (by omega) (by omega)
    have ih := ih (F + 1) (i + 1) (by omega) (by omega) (by omega)
    have e3 : 3 * i + 3 = 3 * (i + 1) := by omega
    simp only [upto, List.all_cons]
    by_cases e : T (3 * i) < bF B
    · rw [decide_eq_true (And.intro ht.2.1 e)] at hj
      rw [decide_eq_true e, Bool.true_and, ← ih]
      rw [f_X10_see_L36]
      simp (disch := omega) only [ht.1, hj, e3, bI_t, n_i8, n_i16, n_0, n_31, n_add, n_sub, n_mul, n_neg, n_div, n_rem, n_le_t, n_le_f, n_lt_t, n_lt_f, n_eq_t, n_eq_f, n_cl, n_gd, n_gdt, n_nz, Int.reduceToNat, Int.reduceAdd, Int.reduceSub, Int.reduceMul, Int.reduceNeg, Int.reduceLT, Int.reduceLE, Int.reduceEq, Int.reduceDiv, Int.reduceMod, Nat.reduceAdd, Nat.reduceMul, ↓reduceIte, u_eq, u_no, u_nk, u_ek, u_2, u_3, j_1, j_3, j_eq, j_no, j_nk, ltd, bnd]
    · rw [decide_eq_false (fun c => e c.2)] at hj
      rw [decide_eq_false e, Bool.false_and]
      rw [f_X10_see_L36]
      by_cases e4 : n ≤ 3 * (i + 1)
      · simp (disch := omega) only [f_X10_see_L36, ht.1, hj, e3, bI_f, n_i8, n_i16, n_0, n_31, n_add, n_sub, n_mul, n_neg, n_div, n_rem, n_le_t, n_le_f, n_lt_t, n_lt_f, n_eq_t, n_eq_f, n_cl, n_gd, n_gdt, n_nz, Int.reduceToNat, Int.reduceAdd, Int.reduceSub, Int.reduceMul, Int.reduceNeg, Int.reduceLT, Int.reduceLE, Int.reduceEq, Int.reduceDiv, Int.reduceMod, Nat.reduceAdd, Nat.reduceMul, ↓reduceIte, u_eq, u_no, u_nk, u_ek, u_2, u_3, j_1, j_3, j_eq, j_no, j_nk, ltd, bnd]
      · simp (disch := omega) only [f_X10_see_L36, ht.1, hj, e3, bI_f, n_i8, n_i16, n_0, n_31, n_add, n_sub, n_mul, n_neg, n_div, n_rem, n_le_t, n_le_f, n_lt_t, n_lt_f, n_eq_t, n_eq_f, n_cl, n_gd, n_gdt, n_nz, Int.reduceToNat, Int.reduceAdd, Int.reduceSub, Int.reduceMul, Int.reduceNeg, Int.reduceLT, Int.reduceLE, Int.reduceEq, Int.reduceDiv, Int.reduceMod, Nat.reduceAdd, Nat.reduceMul, ↓reduceIte, u_eq, u_no, u_nk, u_ek, u_2, u_3, j_1, j_3, j_eq, j_no, j_nk, ltd, bnd]
theorem m_see_2 {T : Int → Int} {n : Int} (n0 : 0 ≤ n) (n1 : n ≤ 48) (K : Int32 → ST → Option (Int32 × ST)) : ∀ (c F : Nat) (i : Int) (s : ST), (∀ j : Int, 0 ≤ j → j < n → s.1 66 j.toNat = Int32.ofInt (T j)) → 0 ≤ i → (c : Int) = n - i → c < F → ∃ s', (∀ o k : Nat, ¬ o = 120 → s'.1 o k = s.1 o k) ∧ s'.2 = s.2 ∧ (∀ j : Int, i ≤ j → j < n → s'.1 120 j.toNat = Int32.ofInt (T j)) ∧ (∀ j : Int, 0 ≤ j → j < i → s'.1 120 j.toNat = s.1 120 j.toNat) ∧ f_X10_see_L74 K F (Int32.ofInt n) (Int32.ofInt i) s = K (Int32.ofInt n) s' := by
  intro c
  induction c with
  | zero =>
    intro F i s hT h0 hn hF
    obtain ⟨F, rfl⟩ : ∃ F', F = F' + 1 := ⟨F - 1, by omega⟩
    refine ⟨s, fun _ _ _ => rfl, rfl, fun j j1 j2 => by omega, fun _ _ _ => rfl, ?_⟩
    simp (disch := omega) only [f_X10_see_L74, n_i8, n_i16, n_0, n_31, n_add, n_sub, n_mul, n_neg, n_div, n_rem, n_le_t, n_le_f, n_lt_t, n_lt_f, n_eq_t, n_eq_f, n_cl, n_gd, n_gdt, n_nz, Int.reduceToNat, Int.reduceAdd, Int.reduceSub, Int.reduceMul, Int.reduceNeg, Int.reduceLT, Int.reduceLE, Int.reduceEq, Int.reduceDiv, Int.reduceMod, Nat.reduceAdd, Nat.reduceMul, ↓reduceIte]
  | succ c ih =>
    intro F i s hT h0 hn hF
    obtain ⟨F, rfl⟩ : ∃ F', F = F' + 1 := ⟨F - 1, by omega⟩
    have ht := hT i h0 (by omega)
    obtain ⟨s', q1, q2, q3, q4, q5⟩ := ih F (i + 1) (uI s 120 i.toNat (Int32.ofInt (T i))) (fun j j1 j2 => by rw [u_no (by omega)]; exact hT j j1 j2) (by omega) (by omega) (by omega)
    refine ⟨s', fun o k ho => (q1 o k ho).trans (u_no ho), q2, fun j j1 j2 => ?_, fun j j1 j2 => ?_, ?_⟩
    · by_cases e : j = i
      · subst e; rw [q4 j h0 (by omega), u_eq]
      · exact q3 j (by omega) j2
    · rw [q4 j j1 (by omega), u_nk (by omega)]
    · rw [← q5]
      simp (disch := omega) only [f_X10_see_L74, ht, n_i8, n_i16, n_0, n_31, n_add, n_sub, n_mul, n_neg, n_div, n_rem, n_le_t, n_le_f, n_lt_t, n_lt_f, n_eq_t, n_eq_f, n_cl, n_gd, n_gdt, n_nz, Int.reduceToNat, Int.reduceAdd, Int.reduceSub, Int.reduceMul, Int.reduceNeg, Int.reduceLT, Int.reduceLE, Int.reduceEq, Int.reduceDiv, Int.reduceMod, Nat.reduceAdd, Nat.reduceMul, ↓reduceIte, u_eq, u_no, u_nk, u_ek, u_2, u_3, j_1, j_3, j_eq, j_no, j_nk, ltd, bnd]
def seeF (T : Int → Int) (i : Int) : Int := T (3 * i)
def seeV (T : Int → Int) (i : Int) : Int := 256 * T (3 * i + 1) + T (3 * i + 2)
theorem m_see {B : Brd} {G : Gam} {T : Int → Int} {n : Int} {s : ST} (h : MA B G s) (hT : TP T n s) : (seeOK B T n → ∃ s', f_X10_see s = some (Int32.ofInt (n / 3), s') ∧ RW B (n / 3) (seeF T) (seeV T) s' ∧ (∀ o k : Nat, ¬ o = 120 → ¬ (o = 65 ∧ (k = 1 ∨ k = 80)) → s'.1 o k = s.1 o k) ∧ s'.1 65 1 = Int32.ofInt 0 ∧ s'.2 = s.2) ∧ (¬ seeOK B T n → f_X10_see s = some (Int32.ofInt (-1), rfS (uI s 65 1 (Int32.ofInt 0)) 1)) := by
  obtain ⟨h1, h2, h3⟩ := hT
  have hR : n - n / 3 * 3 = n % 3 := n_rem _ _
  have hA1 : MA B G (uI s 65 1 (Int32.ofInt 0)) := MA_o h (fun o k ho => u_no ho)
  have hT1 : ∀ j : Int, 0 ≤ j → j < n → (uI s 65 1 (Int32.ofInt 0)).1 66 j.toNat = Int32.ofInt (T j) ∧ 0 ≤ T j ∧ T j ≤ 255 := fun j j1 j2 => by rw [u_no (by omega)]; exact h3 j j1 j2
  have hrf : f_X10_refuses (Int32.ofInt 1) (uI s 65 1 (Int32.ofInt 0)) = some (Int32.ofInt (-1), rfS (uI s 65 1 (Int32.ofInt 0)) 1) := m_refuses (j := 1) (by omega) (by omega)
  have hall : 0 < n → n % 3 = 0 → n / 3 ≤ 16 → f_X10_see_j33 (Int32.ofInt n) (Int32.ofInt 1) (uI s 65 1 (Int32.ofInt 0)) = f_X10_see_j62 (Int32.ofInt n) (bI ((upto (n / 3).toNat 0).all (fun j => decide (T (3 * j) < bF B)))) (uI s 65 1 (Int32.ofInt 0)) := fun a b c => by
    have := m_see_1 hA1 hT1 h2.1 (by omega) b f_X10_see_j62 (n / 3).toNat fuel 0 (by omega) (by omega) (by unfold fuel; omega)
    exact this
  constructor
  · intro ⟨⟨c1, c2, c3⟩, c4⟩
    have e : (upto (n / 3).toNat 0).all (fun j => decide (T (3 * j) < bF B)) = true := by
      rw [List.all_eq_true]
      intro j hj
      rw [mem_upto] at hj
      exact decide_eq_true (c4 j hj.1 (by omega))
    have hall := hall c1 c2 c3
    rw [e] at hall
    obtain ⟨s1, q1, q2, q3, q4, q5⟩ := m_see_2 (T := T) h2.1 (by omega) f_X10_see_j97 n.toNat fuel 0 (uI s 65 1 (Int32.ofInt 0)) (fun j j1 j2 => (hT1 j j1 j2).1) (by omega) (by omega) (by unfold fuel; omega)
    have f : ∀ o k : Nat, ¬ o = 120 → ¬ (o = 65 ∧ (k = 1 ∨ k = 80)) → (uI s1 65 80 (Int32.ofInt (n / 3))).1 o k = s.1 o k := fun o k a b => by rw [ua, if_neg (by omega), q1 o k a, ua, if_neg (by omega)]
    refine ⟨uI s1 65 80 (Int32.ofInt (n / 3)), ?_, ⟨u_eq _ _ _ _, by omega, fun i i1 i2 => ⟨⟨(h3 (3 * i) (by omega) (by omega)).2.1, c4 i i1 i2⟩, ?_, T (3 * i + 1), T (3 * i + 2), (h3 (3 * i + 1) (by omega) (by omega)).2, (h3 (3 * i + 2) (by omega) (by omega)).2, rfl, ?_, ?_⟩⟩, f, ?_, q2⟩
    · have hj62 : f_X10_see_j62 (Int32.ofInt n) (bI true) (uI s 65 1 (Int32.ofInt 0)) = some (Int32.ofInt (n / 3), uI s1 65 80 (Int32.ofInt (n / 3))) := by
        simp (disch := omega) only [f_X10_see_j62, f_X10_see_j97, q5, bI_t, n_i8, n_i16, n_0, n_31, n_add, n_sub, n_mul, n_neg, n_div, n_rem, n_le_t, n_le_f, n_lt_t, n_lt_f, n_eq_t, n_eq_f, n_cl, n_gd, n_gdt, n_nz, Int.reduceToNat, Int.reduceAdd, Int.reduceSub, Int.reduceMul, Int.reduceNeg, Int.reduceLT, Int.reduceLE, Int.reduceEq, Int.reduceDiv, Int.reduceMod, Nat.reduceAdd, Nat.reduceMul, ↓reduceIte, ltd, bnd, u_eq]
      rw [hj62] at hall
      simp (disch := omega) only [f_X10_see, h1, hR, hall, n_i8, n_i16, n_0, n_31, n_add, n_sub, n_mul, n_neg, n_div, n_rem, n_le_t, n_le_f, n_lt_t, n_lt_f, n_eq_t, n_eq_f, n_cl, n_gd, n_gdt, n_nz, Int.reduceToNat, Int.reduceAdd, Int.reduceSub, Int.reduceMul, Int.reduceNeg, Int.reduceLT, Int.reduceLE, Int.reduceEq, Int.reduceDiv, Int.reduceMod, Nat.reduceAdd, Nat.reduceMul, ↓reduceIte, ltd, bnd]
    · rw [u_no (by omega)]; exact q3 (3 * i) (by omega) (by omega)
    · rw [u_no (by omega)]; exact q3 (3 * i + 1) (by omega) (by omega)
    · rw [u_no (by omega)]; exact q3 (3 * i + 2) (by omega) (by omega)
    · rw [u_nk (by omega), q1 65 1 (by omega), u_eq]
  · intro c
    have hj0 : f_X10_see_j32 (Int32.ofInt n) (uI s 65 1 (Int32.ofInt 0)) = some (Int32.ofInt (-1), rfS (uI s 65 1 (Int32.ofInt 0)) 1) := by
      unfold f_X10_see_j32 f_X10_see_j33
      have : ∀ F : Nat, f_X10_see_L36 f_X10_see_j62 (F + 1) (Int32.ofInt n) (Int32.ofInt 0) (Int32.ofInt 0) (uI s 65 1 (Int32.ofInt 0)) = some (Int32.ofInt (-1), rfS (uI s 65 1 (Int32.ofInt 0)) 1) := fun F => by
        by_cases e : n = 0
        · simp (disch := omega) only [f_X10_see_L36, f_X10_see_j62, hrf, n_i8, n_i16, n_0, n_31, n_add, n_sub, n_mul, n_neg, n_div, n_rem, n_le_t, n_le_f, n_lt_t, n_lt_f, n_eq_t, n_eq_f, n_cl, n_gd, n_gdt, n_nz, Int.reduceToNat, Int.reduceAdd, Int.reduceSub, Int.reduceMul, Int.reduceNeg, Int.reduceLT, Int.reduceLE, Int.reduceEq, Int.reduceDiv, Int.reduceMod, Nat.reduceAdd, Nat.reduceMul, ↓reduceIte, bnd]
        · simp (disch := omega) only [f_X10_see_L36, f_X10_see_j62, hrf, n_i8, n_i16, n_0, n_31, n_add, n_sub, n_mul, n_neg, n_div, n_rem, n_le_t, n_le_f, n_lt_t, n_lt_f, n_eq_t, n_eq_f, n_cl, n_gd, n_gdt, n_nz, Int.reduceToNat, Int.reduceAdd, Int.reduceSub, Int.reduceMul, Int.reduceNeg, Int.reduceLT, Int.reduceLE, Int.reduceEq, Int.reduceDiv, Int.reduceMod, Nat.reduceAdd, Nat.reduceMul, ↓reduceIte, bnd]
      exact this 99999
    by_cases c1 : 0 < n
    · by_cases c2 : n % 3 = 0
      · by_cases c3 : n / 3 ≤ 16
        · have hall := hall c1 c2 c3
          have e : (upto (n / 3).toNat 0).all (fun j => decide (T (3 * j) < bF B)) = false := by
            cases e : (upto (n / 3).toNat 0).all (fun j => decide (T (3 * j) < bF B)) with
            | false => rfl
            | true =>
              exfalso
              rw [List.all_eq_true] at e
              exact c ⟨⟨c1, c2, c3⟩, fun i i1 i2 => of_decide_eq_true (e i (mem_upto.mpr (by omega)))⟩
          rw [e] at hall
          have hj62 : f_X10_see_j62 (Int32.ofInt n) (bI false) (uI s 65 1 (Int32.ofInt 0)) = some (Int32.ofInt (-1), rfS (uI s 65 1 (Int32.ofInt 0)) 1) := by
            simp (disch := omega) only [f_X10_see_j62, hrf, bI_f, n_i8, n_i16, n_0, n_31, n_add, n_sub, n_mul, n_neg, n_div, n_rem, n_le_t, n_le_f, n_lt_t, n_lt_f, n_eq_t, n_eq_f, n_cl, n_gd, n_gdt, n_nz, Int.reduceToNat, Int.reduceAdd, Int.reduceSub, Int.reduceMul, Int.reduceNeg, Int.reduceLT, Int.reduceLE, Int.reduceEq, Int.reduceDiv, Int.reduceMod, Nat.reduceAdd, Nat.reduceMul, ↓reduceIte, ltd, bnd]
          rw [hj62] at hall
          simp (disch := omega) only [f_X10_see, h1, hR, hall, n_i8, n_i16, n_0, n_31, n_add, n_sub, n_mul, n_neg, n_div, n_rem, n_le_t, n_le_f, n_lt_t, n_lt_f, n_eq_t, n_eq_f, n_cl, n_gd, n_gdt, n_nz, Int.reduceToNat, Int.reduceAdd, Int.reduceSub, Int.reduceMul, Int.reduceNeg, Int.reduceLT, Int.reduceLE, Int.reduceEq, Int.reduceDiv, Int.reduceMod, Nat.reduceAdd, Nat.reduceMul, ↓reduceIte, ltd, bnd]
        · simp (disch := omega) only [f_X10_see, h1, hR, hj0, n_i8, n_i16, n_0, n_31, n_add, n_sub, n_mul, n_neg, n_div, n_rem, n_le_t, n_le_f, n_lt_t, n_lt_f, n_eq_t, n_eq_f, n_cl, n_gd, n_gdt, n_nz, Int.reduceToNat, Int.reduceAdd, Int.reduceSub, Int.reduceMul, Int.reduceNeg, Int.reduceLT, Int.reduceLE, Int.reduceEq, Int.reduceDiv, Int.reduceMod, Nat.reduceAdd, Nat.reduceMul, ↓reduceIte, ltd, bnd]
      · simp (disch := omega) only [f_X10_see, h1, hR, hj0, n_i8, n_i16, n_0, n_31, n_add, n_sub, n_mul, n_neg, n_div, n_rem, n_le_t, n_le_f, n_lt_t, n_lt_f, n_eq_t, n_eq_f, n_cl, n_gd, n_gdt, n_nz, Int.reduceToNat, Int.reduceAdd, Int.reduceSub, Int.reduceMul, Int.reduceNeg, Int.reduceLT, Int.reduceLE, Int.reduceEq, Int.reduceDiv, Int.reduceMod, Nat.reduceAdd, Nat.reduceMul, ↓reduceIte, ltd, bnd]
    · simp (disch := omega) only [f_X10_see, h1, hR, hj0, n_i8, n_i16, n_0, n_31, n_add, n_sub, n_mul, n_neg, n_div, n_rem, n_le_t, n_le_f, n_lt_t, n_lt_f, n_eq_t, n_eq_f, n_cl, n_gd, n_gdt, n_nz, Int.reduceToNat, Int.reduceAdd, Int.reduceSub, Int.reduceMul, Int.reduceNeg, Int.reduceLT, Int.reduceLE, Int.reduceEq, Int.reduceDiv, Int.reduceMod, Nat.reduceAdd, Nat.reduceMul, ↓reduceIte, ltd, bnd]
