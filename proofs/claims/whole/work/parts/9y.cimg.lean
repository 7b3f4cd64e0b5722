/-! L3: images of the class, rows seen, places read -/
theorem CQ_w {B : Brd} {G : Gam} {brd : Bool} {p : Nat} {s s' : ST} (h : CQ B G brd p s) (hf : WX s s') : CQ B G brd p s' := CQ_x h (fun a k x => hf.1 a k (by omega) (by omega)) hf.2
theorem c_image_m {B : Brd} {G : Gam} {brd : Bool} {p : Nat} (K : ST → Option (Int32 × ST)) : ∀ (n F : Nat) (i : Int) (L : List Int) (s : ST), CQ B G brd p s → WC L s → 0 ≤ i → (n : Int) = bM B - i → n < F → (L.length : Int) + 2 * n ≤ 19 → ∃ s', WX s s' ∧ WC (L ++ (upto n i).flatMap (imM G)) s' ∧ f_X9_image_L29 K F (Int32.ofInt i) s = K s' := by
  intro n
  induction n with
  | zero =>
    intro F i L s h hW h0 hn hF hl
    obtain ⟨F, rfl⟩ : ∃ F', F = F' + 1 := ⟨F - 1, by omega⟩
    have hA := h.1.1.1
    have hp := hA.2.1.2
    have hP := h.2.1.1
    have hM8 : bM B ≤ 8 := hA.1.1.1.1.2.2.2.2.2.2.2.1
    have c8 : s.1 p 8 = Int32.ofInt (bM B) := hA.2.2.2.1.1.2.2.2.1
    refine ⟨s, WX.rf s, by simp only [upto, List.flatMap_nil, List.append_nil]; exact hW, ?_⟩
    simp (disch := omega) only [f_X9_image_L29, hP, c8, g_kk, g_k1, g_n1, g_k2, g_n2, g_k3, g_n3, g_k4, g_n4, g_k5, g_n5, g_k7, g_n7, g_k8, g_n8, g_k9, g_n9, g_k6, g_r3, g_r4, g_r5, g_r6, g_r7, g_r10, g_q0, g_q1, g_q2, p_kk, p_k1, p_n1, p_k2, p_n2, p_k3, p_n3, p_k4, p_n4, p_k5, p_n5, p_k6, p_n6, p_k7, p_n7, p_k8, p_n8, p_k9, p_n9, p_k10, p_n10, p_k11, p_n11, p_k13, p_n13, p_k12, p_r2, p_r4, p_r5, p_r6, p_r7, p_r9, p_r10, p_r11, p_r13, p_r14, p_r15, p_r16, p_h0, n_i8, n_i16, n_0, n_31, n_add, n_sub, n_mul, n_neg, n_div, n_rem, n_le_t, n_le_f, n_lt_t, n_lt_f, n_eq_t, n_eq_f, n_cl, n_gd, n_gdt, n_nz, Int.reduceToNat, Int.reduceAdd, Int.reduceSub, Int.reduceMul, Int.reduceNeg, Int.reduceLT, Int.reduceLE, Int.reduceEq, Int.reduceDiv, Int.reduceMod, Nat.reduceAdd, Nat.reduceMul, ↓reduceIte, u_eq, u_no, u_nk, u_ek, u_2, u_3, j_1, j_3, j_eq, j_no, j_nk, ltd, bnd]
  | succ n ih =>
    intro F i L s h hW h0 hn hF hl
    obtain ⟨F, rfl⟩ : ∃ F', F = F' + 1 := ⟨F - 1, by omega⟩
    have hA := h.1.1.1
    have hB := hA.1.1
    have hp := hA.2.1.2
    have hP := h.2.1.1
    have hM8 : bM B ≤ 8 := hB.1.1.2.2.2.2.2.2.2.1
    have c8 : s.1 p 8 = Int32.ofInt (bM B) := hA.2.2.2.1.1.2.2.2.1
    have cpl : s.1 38 i.toNat = Int32.ofInt (pl G i) := hA.2.2.2.2.1 i h0 (by omega)
    have hpl := pl_b hB hA.1.2 (m := i) h0 (by omega)
    have hgp := hA.1.2.2.1 i h0 (by omega)
    obtain ⟨s1, q1, q2, q3⟩ := c_write hW (by omega) (b255 (gx G i))
    obtain ⟨s2, r1, r2, r3⟩ := c_write q2 (by rw [List.length_append, List.length_singleton]; omega) (b255 (gy G i))
    obtain ⟨s3, w1, w2, w3⟩ := ih F (i + 1) _ s2 (CQ_w h (q3.tr r3)) r2 (by omega) (by omega) (by omega) (by simp only [List.length_append, List.length_singleton]; omega)
    refine ⟨s3, (q3.tr r3).tr w1, ?_, ?_⟩
    · simp only [upto, List.flatMap_cons]
      have : L ++ [b255 (gx G i)] ++ [b255 (gy G i)] ++ (upto n (i + 1)).flatMap (imM G) = L ++ (imM G i ++ (upto n (i + 1)).flatMap (imM G)) := by simp [imM]
      rw [← this]; exact w2
    · rw [← w3, f_X9_image_L29]
      unfold b255 at q1 r1
      rcases hpl with ⟨a, b⟩ | ⟨a1, a2, a3, a4, b, b0, b1', b2, b3⟩
      · rw [if_pos a] at q1
        rw [if_pos (by omega)] at r1
        rw [b] at cpl
        simp (disch := omega) only [f_X9_image_j64, f_X9_image_j81, hP, c8, cpl, q1, r1, g_kk, g_k1, g_n1, g_k2, g_n2, g_k3, g_n3, g_k4, g_n4, g_k5, g_n5, g_k7, g_n7, g_k8, g_n8, g_k9, g_n9, g_k6, g_r3, g_r4, g_r5, g_r6, g_r7, g_r10, g_q0, g_q1, g_q2, p_kk, p_k1, p_n1, p_k2, p_n2, p_k3, p_n3, p_k4, p_n4, p_k5, p_n5, p_k6, p_n6, p_k7, p_n7, p_k8, p_n8, p_k9, p_n9, p_k10, p_n10, p_k11, p_n11, p_k13, p_n13, p_k12, p_r2, p_r4, p_r5, p_r6, p_r7, p_r9, p_r10, p_r11, p_r13, p_r14, p_r15, p_r16, p_h0, n_i8, n_i16, n_0, n_31, n_add, n_sub, n_mul, n_neg, n_div, n_rem, n_le_t, n_le_f, n_lt_t, n_lt_f, n_eq_t, n_eq_f, n_cl, n_gd, n_gdt, n_nz, Int.reduceToNat, Int.reduceAdd, Int.reduceSub, Int.reduceMul, Int.reduceNeg, Int.reduceLT, Int.reduceLE, Int.reduceEq, Int.reduceDiv, Int.reduceMod, Nat.reduceAdd, Nat.reduceMul, ↓reduceIte, u_eq, u_no, u_nk, u_ek, u_2, u_3, j_1, j_3, j_eq, j_no, j_nk, ltd, bnd]
      · rw [if_neg (by omega), ← b2] at q1
        rw [if_neg (by omega), ← b3] at r1
        simp (disch := omega) only [f_X9_image_j64, f_X9_image_j81, hP, c8, cpl, q1, r1, g_kk, g_k1, g_n1, g_k2, g_n2, g_k3, g_n3, g_k4, g_n4, g_k5, g_n5, g_k7, g_n7, g_k8, g_n8, g_k9, g_n9, g_k6, g_r3, g_r4, g_r5, g_r6, g_r7, g_r10, g_q0, g_q1, g_q2, p_kk, p_k1, p_n1, p_k2, p_n2, p_k3, p_n3, p_k4, p_n4, p_k5, p_n5, p_k6, p_n6, p_k7, p_n7, p_k8, p_n8, p_k9, p_n9, p_k10, p_n10, p_k11, p_n11, p_k13, p_n13, p_k12, p_r2, p_r4, p_r5, p_r6, p_r7, p_r9, p_r10, p_r11, p_r13, p_r14, p_r15, p_r16, p_h0, n_i8, n_i16, n_0, n_31, n_add, n_sub, n_mul, n_neg, n_div, n_rem, n_le_t, n_le_f, n_lt_t, n_lt_f, n_eq_t, n_eq_f, n_cl, n_gd, n_gdt, n_nz, Int.reduceToNat, Int.reduceAdd, Int.reduceSub, Int.reduceMul, Int.reduceNeg, Int.reduceLT, Int.reduceLE, Int.reduceEq, Int.reduceDiv, Int.reduceMod, Nat.reduceAdd, Nat.reduceMul, ↓reduceIte, u_eq, u_no, u_nk, u_ek, u_2, u_3, j_1, j_3, j_eq, j_no, j_nk, ltd, bnd]
theorem c_image_f {B : Brd} {G : Gam} {brd : Bool} {p : Nat} (K : ST → Option (Int32 × ST)) : ∀ (n F : Nat) (i : Int) (L : List Int) (s : ST), CQ B G brd p s → WC L s → 0 ≤ i → (n : Int) = bF B - i → n < F → (L.length : Int) + 2 * n ≤ 31 → ∃ s', WX s s' ∧ WC (L ++ (upto n i).flatMap (imF G)) s' ∧ f_X9_image_L92 K F (Int32.ofInt i) s = K s' := by
  intro n
  induction n with
  | zero =>
    intro F i L s h hW h0 hn hF hl
    obtain ⟨F, rfl⟩ : ∃ F', F = F' + 1 := ⟨F - 1, by omega⟩
    have hA := h.1.1.1
    have hp := hA.2.1.2
    have hP := h.2.1.1
    have hF6 : bF B ≤ 6 := hA.1.1.1.1.2.2.2.2.2.2.2.2.2
    have c12 : s.1 p 12 = Int32.ofInt (bF B) := hA.2.2.2.1.1.2.2.2.2.1
    refine ⟨s, WX.rf s, by simp only [upto, List.flatMap_nil, List.append_nil]; exact hW, ?_⟩
    simp (disch := omega) only [f_X9_image_L92, hP, c12, g_kk, g_k1, g_n1, g_k2, g_n2, g_k3, g_n3, g_k4, g_n4, g_k5, g_n5, g_k7, g_n7, g_k8, g_n8, g_k9, g_n9, g_k6, g_r3, g_r4, g_r5, g_r6, g_r7, g_r10, g_q0, g_q1, g_q2, p_kk, p_k1, p_n1, p_k2, p_n2, p_k3, p_n3, p_k4, p_n4, p_k5, p_n5, p_k6, p_n6, p_k7, p_n7, p_k8, p_n8, p_k9, p_n9, p_k10, p_n10, p_k11, p_n11, p_k13, p_n13, p_k12, p_r2, p_r4, p_r5, p_r6, p_r7, p_r9, p_r10, p_r11, p_r13, p_r14, p_r15, p_r16, p_h0, n_i8, n_i16, n_0, n_31, n_add, n_sub, n_mul, n_neg, n_div, n_rem, n_le_t, n_le_f, n_lt_t, n_lt_f, n_eq_t, n_eq_f, n_cl, n_gd, n_gdt, n_nz, Int.reduceToNat, Int.reduceAdd, Int.reduceSub, Int.reduceMul, Int.reduceNeg, Int.reduceLT, Int.reduceLE, Int.reduceEq, Int.reduceDiv, Int.reduceMod, Nat.reduceAdd, Nat.reduceMul, ↓reduceIte, u_eq, u_no, u_nk, u_ek, u_2, u_3, j_1, j_3, j_eq, j_no, j_nk, ltd, bnd]
  | succ n ih =>
    intro F i L s h hW h0 hn hF hl
    obtain ⟨F, rfl⟩ : ∃ F', F = F' + 1 := ⟨F - 1, by omega⟩
    have hA := h.1.1.1
    have hp := hA.2.1.2
    have hP := h.2.1.1
    have hF6 : bF B ≤ 6 := hA.1.1.1.1.2.2.2.2.2.2.2.2.2
    have c12 : s.1 p 12 = Int32.ofInt (bF B) := hA.2.2.2.1.1.2.2.2.2.1
    have cb : s.1 39 i.toNat = Int32.ofInt (gb G i) := h.1.1.2.2 i h0 (by omega)
    have hgb := hA.1.2.2.2.2 i h0 (by omega)
    obtain ⟨s1, q1, q2, q3⟩ := c_writePair hW (by omega) hgb.1 (by omega)
    obtain ⟨s3, w1, w2, w3⟩ := ih F (i + 1) _ s1 (CQ_w h q3) q2 (by omega) (by omega) (by omega) (by simp only [List.length_append, List.length_cons, List.length_nil]; omega)
    refine ⟨s3, q3.tr w1, ?_, ?_⟩
    · simp only [upto, List.flatMap_cons]
      rw [← List.append_assoc]; exact w2
    · rw [← w3, f_X9_image_L92]
      simp (disch := omega) only [hP, c12, cb, q1, g_kk, g_k1, g_n1, g_k2, g_n2, g_k3, g_n3, g_k4, g_n4, g_k5, g_n5, g_k7, g_n7, g_k8, g_n8, g_k9, g_n9, g_k6, g_r3, g_r4, g_r5, g_r6, g_r7, g_r10, g_q0, g_q1, g_q2, p_kk, p_k1, p_n1, p_k2, p_n2, p_k3, p_n3, p_k4, p_n4, p_k5, p_n5, p_k6, p_n6, p_k7, p_n7, p_k8, p_n8, p_k9, p_n9, p_k10, p_n10, p_k11, p_n11, p_k13, p_n13, p_k12, p_r2, p_r4, p_r5, p_r6, p_r7, p_r9, p_r10, p_r11, p_r13, p_r14, p_r15, p_r16, p_h0, n_i8, n_i16, n_0, n_31, n_add, n_sub, n_mul, n_neg, n_div, n_rem, n_le_t, n_le_f, n_lt_t, n_lt_f, n_eq_t, n_eq_f, n_cl, n_gd, n_gdt, n_nz, Int.reduceToNat, Int.reduceAdd, Int.reduceSub, Int.reduceMul, Int.reduceNeg, Int.reduceLT, Int.reduceLE, Int.reduceEq, Int.reduceDiv, Int.reduceMod, Nat.reduceAdd, Nat.reduceMul, ↓reduceIte, u_eq, u_no, u_nk, u_ek, u_2, u_3, j_1, j_3, j_eq, j_no, j_nk, ltd, bnd]
theorem c_marked {c v : Int} (c0 : 0 ≤ c) (c1 : c ≤ 250) (v0 : 0 ≤ v) (v1 : v ≤ 255) (s : ST) : f_X9_marked (Int32.ofInt c) (Int32.ofInt v) s = some (Int32.ofInt ((3 * c + v) % 251), s) := by
  simp (disch := omega) only [f_X9_marked, n_i8, n_i16, n_0, n_31, n_add, n_sub, n_mul, n_neg, n_div, n_rem, n_le_t, n_le_f, n_lt_t, n_lt_f, n_eq_t, n_eq_f, n_cl, n_gd, n_gdt, n_nz, Int.reduceToNat, Int.reduceAdd, Int.reduceSub, Int.reduceMul, Int.reduceNeg, Int.reduceLT, Int.reduceLE, Int.reduceEq, Int.reduceDiv, Int.reduceMod, Nat.reduceAdd, Nat.reduceMul, ↓reduceIte, u_eq, u_no, u_nk, u_ek, u_2, u_3, j_1, j_3, j_eq, j_no, j_nk, ltd, bnd]
theorem c_mark_L {L : List Int} {s : ST} (h : WC L s) (hb : ∀ v ∈ L, 0 ≤ v ∧ v ≤ 255) (hl : L.length ≤ 32) (K : Int32 → ST → Option (Int32 × ST)) : ∀ (n F : Nat) (i c : Int), 0 ≤ i → (n : Int) = (L.length : Int) - i → n < F → 0 ≤ c → c ≤ 250 → f_X9_image_L127 K F (Int32.ofInt c) (Int32.ofInt i) s = K (Int32.ofInt ((L.drop i.toNat).foldl (fun c v => (3 * c + v) % 251) c)) s := by
  have h1 := h.1
  intro n
  induction n with
  | zero =>
    intro F i c i0 hn hF c0 c1
    obtain ⟨F, rfl⟩ : ∃ F', F = F' + 1 := ⟨F - 1, by omega⟩
    rw [List.drop_of_length_le (by omega)]
    simp (disch := omega) only [f_X9_image_L127, h1, List.foldl_nil, n_i8, n_i16, n_0, n_31, n_add, n_sub, n_mul, n_neg, n_div, n_rem, n_le_t, n_le_f, n_lt_t, n_lt_f, n_eq_t, n_eq_f, n_cl, n_gd, n_gdt, n_nz, Int.reduceToNat, Int.reduceAdd, Int.reduceSub, Int.reduceMul, Int.reduceNeg, Int.reduceLT, Int.reduceLE, Int.reduceEq, Int.reduceDiv, Int.reduceMod, Nat.reduceAdd, Nat.reduceMul, ↓reduceIte, u_eq, u_no, u_nk, u_ek, u_2, u_3, j_1, j_3, j_eq, j_no, j_nk, ltd, bnd]
  | succ n ih =>
    intro F i c i0 hn hF c0 c1
    obtain ⟨F, rfl⟩ : ∃ F', F = F' + 1 := ⟨F - 1, by omega⟩
    have hi : i.toNat < L.length := by omega
    have h2 := h.2 i.toNat hi
    have hv : L.getD i.toNat 0 = L[i.toNat] := by rw [List.getD_eq_getElem?_getD, List.getElem?_eq_getElem hi]; rfl
    rw [hv] at h2
    have hvb := hb _ (List.getElem_mem hi)
    have hm := c_marked c0 c1 hvb.1 hvb.2 s
    have hc2 : 0 ≤ (3 * c + L[i.toNat]) % 251 ∧ (3 * c + L[i.toNat]) % 251 ≤ 250 := by omega
    rw [List.drop_eq_getElem_cons hi, List.foldl_cons]
    have ih := ih F (i + 1) _ (by omega) (by omega) (by omega) hc2.1 hc2.2
    rw [show (i + 1).toNat = i.toNat + 1 by omega] at ih
    rw [← ih, f_X9_image_L127]
    simp (disch := omega) only [h1, h2, hm, n_i8, n_i16, n_0, n_31, n_add, n_sub, n_mul, n_neg, n_div, n_rem, n_le_t, n_le_f, n_lt_t, n_lt_f, n_eq_t, n_eq_f, n_cl, n_gd, n_gdt, n_nz, Int.reduceToNat, Int.reduceAdd, Int.reduceSub, Int.reduceMul, Int.reduceNeg, Int.reduceLT, Int.reduceLE, Int.reduceEq, Int.reduceDiv, Int.reduceMod, Nat.reduceAdd, Nat.reduceMul, ↓reduceIte, u_eq, u_no, u_nk, u_ek, u_2, u_3, j_1, j_3, j_eq, j_no, j_nk, ltd, bnd]
theorem c_image {B : Brd} {G : Gam} {brd : Bool} {p : Nat} {s : ST} (h : CQ B G brd p s) : ∃ s', f_X9_image s = some (Int32.ofInt ((img B G).length : Int), s') ∧ WC (img B G) s' ∧ WX s s' := by
  have hA := h.1.1.1
  have hB := hA.1.1
  have hG := hA.1.2
  have hM0 : 0 ≤ bM B := hB.1.1.2.2.2.2.2.2.1
  have hM8 : bM B ≤ 8 := hB.1.1.2.2.2.2.2.2.2.1
  have hF0 : 0 ≤ bF B := hB.1.1.2.2.2.2.2.2.2.2.1
  have hF6 : bF B ≤ 6 := hB.1.1.2.2.2.2.2.2.2.2.2
  have hd := h.1.2.1
  have hs := h.1.1.2.1
  unfold GS at hs
  have hdd := hG.1
  have f0 : WX s (uI s 0 17 (Int32.ofInt 0)) := ⟨fun o k a b => by (simp only [ua, ja, u_2, u_3, j_1, j_3]; (repeat' split) <;> first | rfl | (exfalso; omega)), rfl⟩
  have w0 : WC [] (uI s 0 17 (Int32.ofInt 0)) := ⟨u_eq _ _ _ _, fun j hj => by cases hj⟩
  have hd0 : (uI s 0 17 (Int32.ofInt 0)).1 36 1 = Int32.ofInt (gd_ G) := by rw [u_no (by omega)]; exact hd
  obtain ⟨s1, q1, q2, q3⟩ := c_writePair w0 (by decide) hdd.1 (by omega)
  have f1 := f0.tr q3
  have hs1 : s1.1 36 2 = Int32.ofInt (gs G) := (f1.1 36 2 (by omega) (by omega)).trans hs
  obtain ⟨s3, q7, q8, q9⟩ := c_write q2 (by simp) (gs G)
  have f3 := f1.tr q9
  obtain ⟨s4, r1, r2, r3⟩ := c_image_m f_X9_image_j90 (bM B).toNat fuel 0 _ s3 (CQ_w h f3) q8 (by omega) (by omega) (by unfold fuel; omega) (by simp only [List.length_append, List.length_cons, List.length_nil]; omega)
  have f4 := f3.tr r1
  have l4 : (([] ++ [gd_ G / 256, gd_ G % 256] ++ [gs G] ++ (upto (bM B).toNat 0).flatMap (imM G)).length : Int) = 3 + 2 * bM B := by
    rw [List.length_append, fm_len (fun i => rfl), upto_len]
    simp only [List.length_append, List.length_cons, List.length_nil]
    omega
  obtain ⟨s5, t1, t2, t3⟩ := c_image_f f_X9_image_j122 (bF B).toNat fuel 0 _ s4 (CQ_w h f4) r2 (by omega) (by omega) (by unfold fuel; omega) (by rw [l4]; omega)
  have f5 := f4.tr t1
  have e5 : [] ++ [gd_ G / 256, gd_ G % 256] ++ [gs G] ++ (upto (bM B).toNat 0).flatMap (imM G) ++ (upto (bF B).toNat 0).flatMap (imF G) = im0 B G := rfl
  rw [e5] at t2
  have hl := im0_len (G := G) hM0 hF0
  have hck := c_mark_L t2 (im0_b hB hG) (by omega) f_X9_image_j152 (im0 B G).length fuel 0 59 (by omega) (by omega) (by unfold fuel; omega) (by omega) (by omega)
  have hck : f_X9_image_L127 f_X9_image_j152 fuel (Int32.ofInt 59) (Int32.ofInt 0) s5 = f_X9_image_j152 (Int32.ofInt (mrk (im0 B G))) s5 := hck
  obtain ⟨s6, u1, u2, u3⟩ := c_write t2 (by omega) (mrk (im0 B G))
  have hlen := u2.1
  refine ⟨s6, ?_, u2, f5.tr u3⟩
  have hj : f_X9_image_j122 s5 = some (Int32.ofInt ((img B G).length : Int), s6) := by
    simp (disch := omega) only [f_X9_image_j122, n_i8, hck]
    simp (disch := omega) only [f_X9_image_j152, u1, hlen, u_eq, u_no, u_nk, u_ek, u_2, u_3, j_1, j_3, j_eq, j_no, j_nk, ltd, bnd]
    rfl
  have hj2 : f_X9_image_j90 s4 = f_X9_image_j122 s5 := t3
  simp (disch := omega) only [f_X9_image, hd0, q1, hs1, q7, r3, hj2, hj, u_eq, u_no, u_nk, u_ek, u_2, u_3, j_1, j_3, j_eq, j_no, j_nk, ltd, bnd]
theorem c_see_a {B : Brd} {G : Gam} {brd : Bool} {p : Nat} {T : Int → Int} {n R : Int} {s : ST} (h : CQ B G brd p s) (hT : CT T n s) (hR : 3 * R = n) (K : Int32 → Int32 → ST → Option (Int32 × ST)) : ∀ (c F : Nat) (i : Int), 0 ≤ i → (c : Int) = R - i → c + 1 < F → f_X9_see_L42 K F (Int32.ofInt R) (Int32.ofInt 1) (Int32.ofInt i) s = K (Int32.ofInt R) (bI ((upto c i).all (fun i => decide (T (3 * i) < bF B)))) s := by
  have hn := hT.2.1
  intro c
  induction c with
  | zero =>
    intro F i i0 hc hF
    obtain ⟨F, rfl⟩ : ∃ F', F = F' + 1 := ⟨F - 1, by omega⟩
    simp (disch := omega) only [f_X9_see_L42, upto, List.all_nil, bI_t, n_i8, n_i16, n_0, n_31, n_add, n_sub, n_mul, n_neg, n_div, n_rem, n_le_t, n_le_f, n_lt_t, n_lt_f, n_eq_t, n_eq_f, n_cl, n_gd, n_gdt, n_nz, Int.reduceToNat, Int.reduceAdd, Int.reduceSub, Int.reduceMul, Int.reduceNeg, Int.reduceLT, Int.reduceLE, Int.reduceEq, Int.reduceDiv, Int.reduceMod, Nat.reduceAdd, Nat.reduceMul, ↓reduceIte, u_eq, u_no, u_nk, u_ek, u_2, u_3, j_1, j_3, j_eq, j_no, j_nk, ltd, bnd]
  | succ c ih =>
    intro F i i0 hc hF
    obtain ⟨F, rfl⟩ : ∃ F', F = F' + 1 := ⟨F - 1, by omega⟩
    have hb := c_byteAt hT (k := 3 * i) (by omega) (by omega)
    have hT3 := (hT.2.2 (3 * i) (by omega) (by omega)).2
    have hi := c_isField h (f := T (3 * i)) (by omega) (by omega)
    have ih := ih F (i + 1) (by omega) (by omega) (by omega)
    simp only [upto, List.all_cons]
    by_cases e : T (3 * i) < bF B
    · rw [decide_eq_true (by omega)] at hi
      rw [decide_eq_true e, Bool.true_and, ← ih, f_X9_see_L42]
      simp (disch := omega) only [hb, hi, bI_t, n_i8, n_i16, n_0, n_31, n_add, n_sub, n_mul, n_neg, n_div, n_rem, n_le_t, n_le_f, n_lt_t, n_lt_f, n_eq_t, n_eq_f, n_cl, n_gd, n_gdt, n_nz, Int.reduceToNat, Int.reduceAdd, Int.reduceSub, Int.reduceMul, Int.reduceNeg, Int.reduceLT, Int.reduceLE, Int.reduceEq, Int.reduceDiv, Int.reduceMod, Nat.reduceAdd, Nat.reduceMul, ↓reduceIte, u_eq, u_no, u_nk, u_ek, u_2, u_3, j_1, j_3, j_eq, j_no, j_nk, ltd, bnd]
    · rw [decide_eq_false (by omega)] at hi
      rw [decide_eq_false e, Bool.false_and]
      obtain ⟨F, rfl⟩ : ∃ F', F = F' + 1 := ⟨F - 1, by omega⟩
      simp (disch := omega) only [f_X9_see_L42, hb, hi, bI_f, n_i8, n_i16, n_0, n_31, n_add, n_sub, n_mul, n_neg, n_div, n_rem, n_le_t, n_le_f, n_lt_t, n_lt_f, n_eq_t, n_eq_f, n_cl, n_gd, n_gdt, n_nz, Int.reduceToNat, Int.reduceAdd, Int.reduceSub, Int.reduceMul, Int.reduceNeg, Int.reduceLT, Int.reduceLE, Int.reduceEq, Int.reduceDiv, Int.reduceMod, Nat.reduceAdd, Nat.reduceMul, ↓reduceIte, u_eq, u_no, u_nk, u_ek, u_2, u_3, j_1, j_3, j_eq, j_no, j_nk, ltd, bnd]
theorem c_see_b {B : Brd} {T : Int → Int} {n R : Int} (hR : 3 * R = n) (R1 : R ≤ 16) (K : Int32 → Int32 → ST → Option (Int32 × ST)) (x2 : Int32) : ∀ (c F : Nat) (i : Int) (s : ST), CT T n s → 0 ≤ i → (c : Int) = R - i → c < F → (∀ j : Int, 0 ≤ j → j < i → s.1 59 j.toNat = Int32.ofInt (seeF T j) ∧ s.1 60 j.toNat = Int32.ofInt (seeV T j)) → ∃ s', f_X9_see_L78 K F (Int32.ofInt R) x2 (Int32.ofInt i) s = K (Int32.ofInt R) x2 s' ∧ (∀ j : Int, 0 ≤ j → j < R → s'.1 59 j.toNat = Int32.ofInt (seeF T j) ∧ s'.1 60 j.toNat = Int32.ofInt (seeV T j)) ∧ (∀ o k : Nat, ¬ o = 59 → ¬ o = 60 → s'.1 o k = s.1 o k) ∧ s'.2 = s.2 := by
  intro c
  induction c with
  | zero =>
    intro F i s hT i0 hc hF hs
    obtain ⟨F, rfl⟩ : ∃ F', F = F' + 1 := ⟨F - 1, by omega⟩
    refine ⟨s, ?_, fun j j0 j1 => hs j j0 (by omega), fun _ _ _ _ => rfl, rfl⟩
    simp (disch := omega) only [f_X9_see_L78, n_i8, n_i16, n_0, n_31, n_add, n_sub, n_mul, n_neg, n_div, n_rem, n_le_t, n_le_f, n_lt_t, n_lt_f, n_eq_t, n_eq_f, n_cl, n_gd, n_gdt, n_nz, Int.reduceToNat, Int.reduceAdd, Int.reduceSub, Int.reduceMul, Int.reduceNeg, Int.reduceLT, Int.reduceLE, Int.reduceEq, Int.reduceDiv, Int.reduceMod, Nat.reduceAdd, Nat.reduceMul, ↓reduceIte, u_eq, u_no, u_nk, u_ek, u_2, u_3, j_1, j_3, j_eq, j_no, j_nk, ltd, bnd]
  | succ c ih =>
    intro F i s hT i0 hc hF hs
    obtain ⟨F, rfl⟩ : ∃ F', F = F' + 1 := ⟨F - 1, by omega⟩
    have hn := hT.2.1
    have hb := c_byteAt hT (k := 3 * i) (by omega) (by omega)
    have hT1 : CT T n (uI s 59 i.toNat (Int32.ofInt (T (3 * i)))) := CT_fr hT (u_no (by omega)) (fun k => u_no (by omega))
    have hpa := c_pairAt hT1 (k := 3 * i + 1) (by omega) (by omega)
    rw [show 3 * i + 1 + 1 = 3 * i + 2 by omega] at hpa
    obtain ⟨s', q1, q2, q3, q4⟩ := ih F (i + 1) (uI (uI s 59 i.toNat (Int32.ofInt (T (3 * i)))) 60 i.toNat (Int32.ofInt (256 * T (3 * i + 1) + T (3 * i + 2)))) (CT_fr hT1 (u_no (by omega)) (fun k => u_no (by omega))) (by omega) (by omega) (by omega) (fun j j0 j1 => by
      by_cases e : j = i
      · rw [e]
        exact ⟨by rw [u_no (by omega), u_eq]; rfl, by rw [u_eq]; rfl⟩
      · rw [u_no (by omega), u_nk (by omega), u_nk (by omega), u_no (by omega)]
        exact hs j j0 (by omega))
    refine ⟨s', ?_, q2, fun o k x y => by rw [q3 o k x y, u_no y, u_no x], q4⟩
    rw [← q1, f_X9_see_L78]
    simp (disch := omega) only [hb, hpa, n_i8, n_i16, n_0, n_31, n_add, n_sub, n_mul, n_neg, n_div, n_rem, n_le_t, n_le_f, n_lt_t, n_lt_f, n_eq_t, n_eq_f, n_cl, n_gd, n_gdt, n_nz, Int.reduceToNat, Int.reduceAdd, Int.reduceSub, Int.reduceMul, Int.reduceNeg, Int.reduceLT, Int.reduceLE, Int.reduceEq, Int.reduceDiv, Int.reduceMod, Nat.reduceAdd, Nat.reduceMul, ↓reduceIte, u_eq, u_no, u_nk, u_ek, u_2, u_3, j_1, j_3, j_eq, j_no, j_nk, ltd, bnd]
theorem c_see {B : Brd} {G : Gam} {brd : Bool} {p : Nat} {T : Int → Int} {n : Int} {s : ST} (h : CQ B G brd p s) (hT : CT T n s) : (seeOK B T n → ∃ s', f_X9_see s = some (Int32.ofInt (n / 3), s') ∧ CW B (n / 3) (seeF T) (seeV T) s' ∧ s'.1 1 1 = Int32.ofInt 0 ∧ (∀ o k : Nat, ¬ o = 59 → ¬ o = 60 → ¬ (o = 1 ∧ k = 1) → ¬ (o = 0 ∧ k = 11) → s'.1 o k = s.1 o k) ∧ s'.2 = s.2) ∧ (¬ seeOK B T n → f_X9_see s = some (Int32.ofInt (-1), crf (uI s 1 1 (Int32.ofInt 0)) 1)) := by
  have h1 := hT.1
  have hn := hT.2.1
  have href := c_refuse (s := uI s 1 1 (Int32.ofInt 0)) (j := 1) (by omega) (by omega)
  have hno : ∀ x1 : Int32, f_X9_see_j38 x1 s = some (Int32.ofInt (-1), crf (uI s 1 1 (Int32.ofInt 0)) 1) := by
    intro x1
    have e : f_X9_see_j38 x1 s = f_X9_see_L42 f_X9_see_j72 fuel x1 (Int32.ofInt 0) (Int32.ofInt 0) s := rfl
    obtain ⟨F, hF⟩ : ∃ F : Nat, fuel = F + 1 := ⟨99999, rfl⟩
    rw [e, hF]
    simp (disch := omega) only [f_X9_see_L42, f_X9_see_j72, f_X9_see_j134, href, n_i8, n_i16, n_0, n_31, n_add, n_sub, n_mul, n_neg, n_div, n_rem, n_le_t, n_le_f, n_lt_t, n_lt_f, n_eq_t, n_eq_f, n_cl, n_gd, n_gdt, n_nz, Int.reduceToNat, Int.reduceAdd, Int.reduceSub, Int.reduceMul, Int.reduceNeg, Int.reduceLT, Int.reduceLE, Int.reduceEq, Int.reduceDiv, Int.reduceMod, Nat.reduceAdd, Nat.reduceMul, ↓reduceIte, u_eq, u_no, u_nk, u_ek, u_2, u_3, j_1, j_3, j_eq, j_no, j_nk, ltd, bnd]
  by_cases e1 : n / 3 < 1
  · refine ⟨fun x => by have := x.1; omega, fun _ => ?_⟩
    simp (disch := omega) only [f_X9_see, h1, hno, n_i8, n_i16, n_0, n_31, n_add, n_sub, n_mul, n_neg, n_div, n_rem, n_le_t, n_le_f, n_lt_t, n_lt_f, n_eq_t, n_eq_f, n_cl, n_gd, n_gdt, n_nz, Int.reduceToNat, Int.reduceAdd, Int.reduceSub, Int.reduceMul, Int.reduceNeg, Int.reduceLT, Int.reduceLE, Int.reduceEq, Int.reduceDiv, Int.reduceMod, Nat.reduceAdd, Nat.reduceMul, ↓reduceIte, u_eq, u_no, u_nk, u_ek, u_2, u_3, j_1, j_3, j_eq, j_no, j_nk, ltd, bnd]
  by_cases e2 : 16 < n / 3
  · refine ⟨fun x => by have := x.1; omega, fun _ => ?_⟩
    simp (disch := omega) only [f_X9_see, h1, hno, n_i8, n_i16, n_0, n_31, n_add, n_sub, n_mul, n_neg, n_div, n_rem, n_le_t, n_le_f, n_lt_t, n_lt_f, n_eq_t, n_eq_f, n_cl, n_gd, n_gdt, n_nz, Int.reduceToNat, Int.reduceAdd, Int.reduceSub, Int.reduceMul, Int.reduceNeg, Int.reduceLT, Int.reduceLE, Int.reduceEq, Int.reduceDiv, Int.reduceMod, Nat.reduceAdd, Nat.reduceMul, ↓reduceIte, u_eq, u_no, u_nk, u_ek, u_2, u_3, j_1, j_3, j_eq, j_no, j_nk, ltd, bnd]
  by_cases e3 : n / 3 * 3 = n
  · have hj : f_X9_see s = f_X9_see_L42 f_X9_see_j72 fuel (Int32.ofInt (n / 3)) (Int32.ofInt 1) (Int32.ofInt 0) s := by
      simp (disch := omega) only [f_X9_see, f_X9_see_j39, h1, n_i8, n_i16, n_0, n_31, n_add, n_sub, n_mul, n_neg, n_div, n_rem, n_le_t, n_le_f, n_lt_t, n_lt_f, n_eq_t, n_eq_f, n_cl, n_gd, n_gdt, n_nz, Int.reduceToNat, Int.reduceAdd, Int.reduceSub, Int.reduceMul, Int.reduceNeg, Int.reduceLT, Int.reduceLE, Int.reduceEq, Int.reduceDiv, Int.reduceMod, Nat.reduceAdd, Nat.reduceMul, ↓reduceIte, u_eq, u_no, u_nk, u_ek, u_2, u_3, j_1, j_3, j_eq, j_no, j_nk, ltd, bnd]
    have ha := c_see_a h hT (R := n / 3) (by omega) f_X9_see_j72 (n / 3).toNat fuel 0 (by omega) (by omega) (by unfold fuel; omega)
    cases e : (upto (n / 3).toNat 0).all (fun i => decide (T (3 * i) < bF B)) with
    | true =>
      rw [e] at ha
      have hall := List.all_eq_true.mp e
      have hok : ∀ i : Int, 0 ≤ i → i < n / 3 → T (3 * i) < bF B := fun i i0 i1 => of_decide_eq_true (hall i (mem_upto.mpr (by omega)))
      refine ⟨fun _ => ?_, fun x => absurd ⟨by omega, hok⟩ x⟩
      obtain ⟨s1, q1, q2, q3, q4⟩ := c_see_b (B := B) (R := n / 3) (by omega) (by omega) f_X9_see_j129 (Int32.ofInt 1) (n / 3).toNat fuel 0 s hT (by omega) (by omega) (by unfold fuel; omega) (fun j j0 j1 => by omega)
      refine ⟨uI (uI s1 0 11 (Int32.ofInt (n / 3))) 1 1 (Int32.ofInt 0), ?_, ⟨by rw [u_no (by omega), u_eq], by omega, fun i i0 i1 => ?_⟩, u_eq _ _ _ _, fun o k x y z w => by rw [ua, if_neg z, ua, if_neg w, q3 o k x y], q4⟩
      · rw [hj, ha, bI_t]
        simp (disch := omega) only [f_X9_see_j72, q1, f_X9_see_j129, f_X9_see_j134, n_i8, n_i16, n_0, n_31, n_add, n_sub, n_mul, n_neg, n_div, n_rem, n_le_t, n_le_f, n_lt_t, n_lt_f, n_eq_t, n_eq_f, n_cl, n_gd, n_gdt, n_nz, Int.reduceToNat, Int.reduceAdd, Int.reduceSub, Int.reduceMul, Int.reduceNeg, Int.reduceLT, Int.reduceLE, Int.reduceEq, Int.reduceDiv, Int.reduceMod, Nat.reduceAdd, Nat.reduceMul, ↓reduceIte, u_eq, u_no, u_nk, u_ek, u_2, u_3, j_1, j_3, j_eq, j_no, j_nk, ltd, bnd]
      · have a := (hT.2.2 (3 * i) (by omega) (by omega)).2
        have b := (hT.2.2 (3 * i + 1) (by omega) (by omega)).2
        have c := (hT.2.2 (3 * i + 2) (by omega) (by omega)).2
        have := hok i i0 i1
        rw [u_no (by omega), u_no (by omega), u_no (by omega), u_no (by omega)]
        refine ⟨⟨?_, ?_⟩, ⟨?_, ?_⟩, q2 i i0 i1⟩
        · show 0 ≤ T (3 * i); omega
        · show T (3 * i) < bF B; omega
        · show 0 ≤ 256 * T (3 * i + 1) + T (3 * i + 2); omega
        · show 256 * T (3 * i + 1) + T (3 * i + 2) ≤ 65535; omega
    | false =>
      rw [e] at ha
      have hnot : ¬ seeOK B T n := fun x => by
        have : (upto (n / 3).toNat 0).all (fun i => decide (T (3 * i) < bF B)) = true := List.all_eq_true.mpr (fun i hi => decide_eq_true (x.2 i (by have := mem_upto.mp hi; omega) (by have := mem_upto.mp hi; omega)))
        rw [e] at this; cases this
      refine ⟨fun x => absurd x hnot, fun _ => ?_⟩
      rw [hj, ha, bI_f]
      simp (disch := omega) only [f_X9_see_j72, f_X9_see_j134, href, n_i8, n_i16, n_0, n_31, n_add, n_sub, n_mul, n_neg, n_div, n_rem, n_le_t, n_le_f, n_lt_t, n_lt_f, n_eq_t, n_eq_f, n_cl, n_gd, n_gdt, n_nz, Int.reduceToNat, Int.reduceAdd, Int.reduceSub, Int.reduceMul, Int.reduceNeg, Int.reduceLT, Int.reduceLE, Int.reduceEq, Int.reduceDiv, Int.reduceMod, Nat.reduceAdd, Nat.reduceMul, ↓reduceIte, u_eq, u_no, u_nk, u_ek, u_2, u_3, j_1, j_3, j_eq, j_no, j_nk, ltd, bnd]
  · refine ⟨fun x => by have := x.1; omega, fun _ => ?_⟩
    simp (disch := omega) only [f_X9_see, h1, hno, n_i8, n_i16, n_0, n_31, n_add, n_sub, n_mul, n_neg, n_div, n_rem, n_le_t, n_le_f, n_lt_t, n_lt_f, n_eq_t, n_eq_f, n_cl, n_gd, n_gdt, n_nz, Int.reduceToNat, Int.reduceAdd, Int.reduceSub, Int.reduceMul, Int.reduceNeg, Int.reduceLT, Int.reduceLE, Int.reduceEq, Int.reduceDiv, Int.reduceMod, Nat.reduceAdd, Nat.reduceMul, ↓reduceIte, u_eq, u_no, u_nk, u_ek, u_2, u_3, j_1, j_3, j_eq, j_no, j_nk, ltd, bnd]
