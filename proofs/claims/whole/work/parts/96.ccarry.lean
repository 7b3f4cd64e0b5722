/-! L3: men are set and lifted -/
theorem RP_congr {B : Brd} {o : Nat} {P P' S S' : Int → Int} {H H' : Int → Int → Bool} {l l' c c' : Int} {s : ST} (h : RP B o P S H l c s) (h1 : ∀ m : Int, 0 ≤ m → m < bM B → P m = P' m) (h2 : ∀ q : Int, 0 ≤ q → q < 25 → S q = S' q) (h3 : ∀ t q : Int, 0 ≤ t → t ≤ 1 → 0 ≤ q → q < 25 → H t q = H' t q) (h4 : l = l') (h5 : c = c') : RP B o P' S' H' l' c' s := by
  obtain ⟨a, b, ⟨d0, d1⟩, e, f⟩ := h
  refine ⟨fun m m0 m1 => by rw [← h1 m m0 m1]; exact a m m0 m1, fun q q0 q1 => by rw [← h2 q q0 q1]; exact b q q0 q1, ⟨?_, ?_⟩, by rw [← h4]; exact e, by rw [← h5]; exact f⟩
  · rw [d0]; exact bmk_congr (fun q q0 q1 => h3 0 q (by omega) (by omega) q0 q1)
  · rw [d1]; exact bmk_congr (fun q q0 q1 => h3 1 q (by omega) (by omega) q0 q1)
/-- what moves on game o's board may change -/
def Fm (o : Nat) (s s' : ST) : Prop := (∀ a k : Nat, ¬ a = o + 2 → ¬ a = o + 4 → ¬ a = o + 5 → ¬ (a = o ∧ (k = 8 ∨ k = 9)) → s'.1 a k = s.1 a k) ∧ s'.2 = s.2
theorem Fm.rf (o : Nat) (s : ST) : Fm o s s := ⟨fun _ _ _ _ _ _ => rfl, rfl⟩
theorem Fm.tr {o : Nat} {s t u : ST} (h1 : Fm o s t) (h2 : Fm o t u) : Fm o s u := ⟨fun a k x y z w => (h2.1 a k x y z w).trans (h1.1 a k x y z w), h2.2.trans h1.2⟩
theorem PB_Fm {B : Brd} {o p : Nat} {s s' : ST} (ho : o = 36 ∨ o = 46) (hp : p = 6 ∨ p = 20) (h : PB B p s) (hf : Fm o s s') : PB B p s' := PB_fr h (fun a k h1 h2 => hf.1 a k (by omega) (by omega) (by omega) (by omega))
def setP (P : Int → Int) (m q : Int) : Int → Int := fun j => if j = m then q else P j
def addH (B : Brd) (H : Int → Int → Bool) (m q : Int) : Int → Int → Bool := fun t r => if t = sd B m then (H t r || decide (r = q)) else H t r
def remH (B : Brd) (H : Int → Int → Bool) (m q : Int) : Int → Int → Bool := fun t r => if t = sd B m then (H t r && !decide (r = q)) else H t r
theorem c_set {B : Brd} {o p : Nat} {P S : Int → Int} {H : Int → Int → Bool} {l c : Int} {s : ST} (hB : Bv B) (ho : o = 36 ∨ o = 46) (hp : p = 6 ∨ p = 20) (hP : RR s.2.2 o 0 = some p) (hPB : PB B p s) (h : RP B o P S H l c s) {m q : Int} (m0 : 0 ≤ m) (m1 : m < bM B) (q0 : 0 ≤ q) (q1 : q < 25) : ∃ s', f_X3_set o (Int32.ofInt m) (Int32.ofInt q) s = some s' ∧ RP B o (setP P m q) (setP S q m) (addH B H m q) l c s' ∧ Fm o s s' := by
  have hM : bM B ≤ 8 := hB.1.1.2.2.2.2.2.2.2.1
  obtain ⟨-, -, hm, -, -⟩ := hPB
  have c1 := (hm m m0 m1).2
  have hsd := hB.2.2.1 m m0 m1
  obtain ⟨a, b, ⟨d0, d1⟩, e, f⟩ := h
  have hsh := shl_q q0 q1
  have hc : sd B m = 0 ∨ sd B m = 1 := by omega
  have hne : ∀ t r, ¬ t = sd B m → addH B H m q t r = H t r := fun t r h => by unfold addH; rw [if_neg h]
  have heq : ∀ t r, t = sd B m → addH B H m q t r = (H t r || decide (r = q)) := fun t r h => by unfold addH; rw [if_pos h]
  refine ⟨uI (uI (uI s (o + 2) m.toNat (Int32.ofInt q)) (o + 4) q.toNat (Int32.ofInt m)) (o + 5) (sd B m).toNat (bmk (H (sd B m)) ||| bmk (fun j => decide (j = q))), ?_, ⟨fun j j0 j1 => ?_, fun r r0 r1 => ?_, ⟨?_, ?_⟩, ?_, ?_⟩, ⟨fun a k x y z w => by (simp only [ua, ja, u_2, u_3, j_1, j_3]; (repeat' split) <;> first | rfl | (exfalso; omega)), rfl⟩⟩
  · rcases hc with hc | hc
    · rw [hc] at c1 ⊢
      simp (disch := omega) only [f_X3_set, hP, c1, d0, hsh, g_kk, g_k1, g_n1, g_k2, g_n2, g_k3, g_n3, g_k4, g_n4, g_k5, g_n5, g_k7, g_n7, g_k8, g_n8, g_k9, g_n9, g_k6, g_r3, g_r4, g_r5, g_r6, g_r7, g_r10, g_q0, g_q1, g_q2, p_kk, p_k1, p_n1, p_k2, p_n2, p_k3, p_n3, p_k4, p_n4, p_k5, p_n5, p_k6, p_n6, p_k7, p_n7, p_k8, p_n8, p_k9, p_n9, p_k10, p_n10, p_k11, p_n11, p_k13, p_n13, p_k12, p_r2, p_r4, p_r5, p_r6, p_r7, p_r9, p_r10, p_r11, p_r13, p_r14, p_r15, p_r16, p_h0, n_i8, n_i16, n_0, n_31, n_add, n_sub, n_mul, n_neg, n_div, n_rem, n_le_t, n_le_f, n_lt_t, n_lt_f, n_eq_t, n_eq_f, n_cl, n_gd, n_gdt, n_nz, Int.reduceToNat, Int.reduceAdd, Int.reduceSub, Int.reduceMul, Int.reduceNeg, Int.reduceLT, Int.reduceLE, Int.reduceEq, Int.reduceDiv, Int.reduceMod, Nat.reduceAdd, Nat.reduceMul, ↓reduceIte, u_eq, u_no, u_nk, u_ek, u_2, u_3, j_1, j_3, j_eq, j_no, j_nk, ltd, bnd, Int.toNat_zero]
    · rw [hc] at c1 ⊢
      simp (disch := omega) only [f_X3_set, hP, c1, d1, hsh, g_kk, g_k1, g_n1, g_k2, g_n2, g_k3, g_n3, g_k4, g_n4, g_k5, g_n5, g_k7, g_n7, g_k8, g_n8, g_k9, g_n9, g_k6, g_r3, g_r4, g_r5, g_r6, g_r7, g_r10, g_q0, g_q1, g_q2, p_kk, p_k1, p_n1, p_k2, p_n2, p_k3, p_n3, p_k4, p_n4, p_k5, p_n5, p_k6, p_n6, p_k7, p_n7, p_k8, p_n8, p_k9, p_n9, p_k10, p_n10, p_k11, p_n11, p_k13, p_n13, p_k12, p_r2, p_r4, p_r5, p_r6, p_r7, p_r9, p_r10, p_r11, p_r13, p_r14, p_r15, p_r16, p_h0, n_i8, n_i16, n_0, n_31, n_add, n_sub, n_mul, n_neg, n_div, n_rem, n_le_t, n_le_f, n_lt_t, n_lt_f, n_eq_t, n_eq_f, n_cl, n_gd, n_gdt, n_nz, Int.reduceToNat, Int.reduceAdd, Int.reduceSub, Int.reduceMul, Int.reduceNeg, Int.reduceLT, Int.reduceLE, Int.reduceEq, Int.reduceDiv, Int.reduceMod, Nat.reduceAdd, Nat.reduceMul, ↓reduceIte, u_eq, u_no, u_nk, u_ek, u_2, u_3, j_1, j_3, j_eq, j_no, j_nk, ltd, bnd, Int.toNat_one]
  · rw [u_no (by omega), u_no (by omega)]
    unfold setP
    by_cases e : j = m
    · rw [if_pos e, u_ek (by omega)]
    · rw [if_neg e, u_nk (by omega)]; exact a j j0 j1
  · rw [u_no (by omega)]
    unfold setP
    by_cases e : r = q
    · rw [if_pos e, u_ek (by omega)]
    · rw [if_neg e, u_nk (by omega), u_no (by omega)]; exact b r r0 r1
  · rcases hc with hc | hc
    · rw [hc, u_ek (by omega), bmk_or]
      exact bmk_congr (fun r _ _ => (heq 0 r hc.symm).symm)
    · rw [u_nk (by omega), u_no (by omega), u_no (by omega), d0]
      exact bmk_congr (fun r _ _ => (hne 0 r (by omega)).symm)
  · rcases hc with hc | hc
    · rw [u_nk (by omega), u_no (by omega), u_no (by omega), d1]
      exact bmk_congr (fun r _ _ => (hne 1 r (by omega)).symm)
    · rw [hc, u_ek (by omega), bmk_or]
      exact bmk_congr (fun r _ _ => (heq 1 r hc.symm).symm)
  · rw [u_no (by omega), u_no (by omega), u_no (by omega)]; exact e
  · rw [u_no (by omega), u_no (by omega), u_no (by omega)]; exact f
theorem c_lift {B : Brd} {o p : Nat} {P S : Int → Int} {H : Int → Int → Bool} {l c : Int} {s : ST} (hB : Bv B) (ho : o = 36 ∨ o = 46) (hp : p = 6 ∨ p = 20) (hP : RR s.2.2 o 0 = some p) (hPB : PB B p s) (h : RP B o P S H l c s) {m q : Int} (m0 : 0 ≤ m) (m1 : m < bM B) (q0 : 0 ≤ q) (q1 : q < 25) : ∃ s', f_X3_lift o (Int32.ofInt m) (Int32.ofInt q) s = some s' ∧ RP B o (setP P m (-1)) (setP S q (-1)) (remH B H m q) l c s' ∧ Fm o s s' := by
  have hM : bM B ≤ 8 := hB.1.1.2.2.2.2.2.2.2.1
  obtain ⟨-, -, hm, -, -⟩ := hPB
  have c1 := (hm m m0 m1).2
  have hsd := hB.2.2.1 m m0 m1
  obtain ⟨a, b, ⟨d0, d1⟩, e, f⟩ := h
  have hsh := shl_q q0 q1
  have hc : sd B m = 0 ∨ sd B m = 1 := by omega
  have hne : ∀ t r, ¬ t = sd B m → remH B H m q t r = H t r := fun t r h => by unfold remH; rw [if_neg h]
  have heq : ∀ t r, t = sd B m → remH B H m q t r = (H t r && !decide (r = q)) := fun t r h => by unfold remH; rw [if_pos h]
  refine ⟨uI (uI (uI s (o + 2) m.toNat (Int32.ofInt (-1))) (o + 4) q.toNat (Int32.ofInt (-1))) (o + 5) (sd B m).toNat (bmk (H (sd B m)) &&& (bmk (fun j => decide (j = q)) ^^^ Int32.ofInt (-1))), ?_, ⟨fun j j0 j1 => ?_, fun r r0 r1 => ?_, ⟨?_, ?_⟩, ?_, ?_⟩, ⟨fun a k x y z w => by (simp only [ua, ja, u_2, u_3, j_1, j_3]; (repeat' split) <;> first | rfl | (exfalso; omega)), rfl⟩⟩
  · rcases hc with hc | hc
    · rw [hc] at c1 ⊢
      simp (disch := omega) only [f_X3_lift, hP, c1, d0, hsh, g_kk, g_k1, g_n1, g_k2, g_n2, g_k3, g_n3, g_k4, g_n4, g_k5, g_n5, g_k7, g_n7, g_k8, g_n8, g_k9, g_n9, g_k6, g_r3, g_r4, g_r5, g_r6, g_r7, g_r10, g_q0, g_q1, g_q2, p_kk, p_k1, p_n1, p_k2, p_n2, p_k3, p_n3, p_k4, p_n4, p_k5, p_n5, p_k6, p_n6, p_k7, p_n7, p_k8, p_n8, p_k9, p_n9, p_k10, p_n10, p_k11, p_n11, p_k13, p_n13, p_k12, p_r2, p_r4, p_r5, p_r6, p_r7, p_r9, p_r10, p_r11, p_r13, p_r14, p_r15, p_r16, p_h0, n_i8, n_i16, n_0, n_31, n_add, n_sub, n_mul, n_neg, n_div, n_rem, n_le_t, n_le_f, n_lt_t, n_lt_f, n_eq_t, n_eq_f, n_cl, n_gd, n_gdt, n_nz, Int.reduceToNat, Int.reduceAdd, Int.reduceSub, Int.reduceMul, Int.reduceNeg, Int.reduceLT, Int.reduceLE, Int.reduceEq, Int.reduceDiv, Int.reduceMod, Nat.reduceAdd, Nat.reduceMul, ↓reduceIte, u_eq, u_no, u_nk, u_ek, u_2, u_3, j_1, j_3, j_eq, j_no, j_nk, ltd, bnd, Int.toNat_zero]
    · rw [hc] at c1 ⊢
      simp (disch := omega) only [f_X3_lift, hP, c1, d1, hsh, g_kk, g_k1, g_n1, g_k2, g_n2, g_k3, g_n3, g_k4, g_n4, g_k5, g_n5, g_k7, g_n7, g_k8, g_n8, g_k9, g_n9, g_k6, g_r3, g_r4, g_r5, g_r6, g_r7, g_r10, g_q0, g_q1, g_q2, p_kk, p_k1, p_n1, p_k2, p_n2, p_k3, p_n3, p_k4, p_n4, p_k5, p_n5, p_k6, p_n6, p_k7, p_n7, p_k8, p_n8, p_k9, p_n9, p_k10, p_n10, p_k11, p_n11, p_k13, p_n13, p_k12, p_r2, p_r4, p_r5, p_r6, p_r7, p_r9, p_r10, p_r11, p_r13, p_r14, p_r15, p_r16, p_h0, n_i8, n_i16, n_0, n_31, n_add, n_sub, n_mul, n_neg, n_div, n_rem, n_le_t, n_le_f, n_lt_t, n_lt_f, n_eq_t, n_eq_f, n_cl, n_gd, n_gdt, n_nz, Int.reduceToNat, Int.reduceAdd, Int.reduceSub, Int.reduceMul, Int.reduceNeg, Int.reduceLT, Int.reduceLE, Int.reduceEq, Int.reduceDiv, Int.reduceMod, Nat.reduceAdd, Nat.reduceMul, ↓reduceIte, u_eq, u_no, u_nk, u_ek, u_2, u_3, j_1, j_3, j_eq, j_no, j_nk, ltd, bnd, Int.toNat_one]
  · rw [u_no (by omega), u_no (by omega)]
    unfold setP
    by_cases e : j = m
    · rw [if_pos e, u_ek (by omega)]
    · rw [if_neg e, u_nk (by omega)]; exact a j j0 j1
  · rw [u_no (by omega)]
    unfold setP
    by_cases e : r = q
    · rw [if_pos e, u_ek (by omega)]
    · rw [if_neg e, u_nk (by omega), u_no (by omega)]; exact b r r0 r1
  · rcases hc with hc | hc
    · rw [hc, u_ek (by omega), bmk_andn]
      exact bmk_congr (fun r _ _ => (heq 0 r hc.symm).symm)
    · rw [u_nk (by omega), u_no (by omega), u_no (by omega), d0]
      exact bmk_congr (fun r _ _ => (hne 0 r (by omega)).symm)
  · rcases hc with hc | hc
    · rw [u_nk (by omega), u_no (by omega), u_no (by omega), d1]
      exact bmk_congr (fun r _ _ => (hne 1 r (by omega)).symm)
    · rw [hc, u_ek (by omega), bmk_andn]
      exact bmk_congr (fun r _ _ => (heq 1 r hc.symm).symm)
  · rw [u_no (by omega), u_no (by omega), u_no (by omega)]; exact e
  · rw [u_no (by omega), u_no (by omega), u_no (by omega)]; exact f
theorem RP_l {B : Brd} {o : Nat} {P S : Int → Int} {H : Int → Int → Bool} {l c : Int} {s : ST} (h : RP B o P S H l c s) (l' : Int) : RP B o P S H l' c (uI s o 8 (Int32.ofInt l')) := by
  obtain ⟨a, b, d, e, f⟩ := h
  refine ⟨fun j j0 j1 => by rw [u_no (by omega)]; exact a j j0 j1, fun q q0 q1 => by rw [u_no (by omega)]; exact b q q0 q1, ?_, u_eq _ _ _ _, by rw [u_nk (by omega)]; exact f⟩
  rw [u_no (by omega), u_no (by omega)]; exact d
theorem RP_c {B : Brd} {o : Nat} {P S : Int → Int} {H : Int → Int → Bool} {l c : Int} {s : ST} (h : RP B o P S H l c s) (c' : Int) : RP B o P S H l c' (uI s o 9 (Int32.ofInt c')) := by
  obtain ⟨a, b, d, e, f⟩ := h
  refine ⟨fun j j0 j1 => by rw [u_no (by omega)]; exact a j j0 j1, fun q q0 q1 => by rw [u_no (by omega)]; exact b q q0 q1, ?_, by rw [u_nk (by omega)]; exact e, u_eq _ _ _ _⟩
  rw [u_no (by omega), u_no (by omega)]; exact d
theorem Fm_8 (o : Nat) (s : ST) (x : Int32) : Fm o s (uI s o 8 x) := ⟨fun a k _ _ _ w => by (simp only [ua, ja, u_2, u_3, j_1, j_3]; (repeat' split) <;> first | rfl | (exfalso; omega)), rfl⟩
theorem Fm_9 (o : Nat) (s : ST) (x : Int32) : Fm o s (uI s o 9 x) := ⟨fun a k _ _ _ w => by (simp only [ua, ja, u_2, u_3, j_1, j_3]; (repeat' split) <;> first | rfl | (exfalso; omega)), rfl⟩
