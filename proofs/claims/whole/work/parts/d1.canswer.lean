/-! L3: what one man answers in the class -/
theorem nMov_c {B : Brd} (hB : Bv B) (G : Gam) (m : Int) : 0 ≤ nMov B G m ∧ nMov B G m ≤ 25 := by
  rw [← gQ_cnt hB G m]
  exact cnF_b _
def AOf (o : Nat) (s s' : ST) : Prop := (∀ a k : Nat, ¬ (o + 6 ≤ a ∧ a ≤ o + 9) → s'.1 a k = s.1 a k) ∧ s'.2 = s.2
theorem AOf.rf (o : Nat) (s : ST) : AOf o s s := ⟨fun _ _ _ => rfl, rfl⟩
theorem AOf.tr {o : Nat} {s t u : ST} (h1 : AOf o s t) (h2 : AOf o t u) : AOf o s u := ⟨fun a k x => (h2.1 a k x).trans (h1.1 a k x), h2.2.trans h1.2⟩
theorem CF.ao {o : Nat} {s t : ST} (h : CF o s t) : AOf o s t := ⟨fun a k x => h.1 a k (by omega) (by omega), h.2⟩
theorem GA_ao {B : Brd} {G : Gam} {o p : Nat} {s s' : ST} (h : GA B G o p s) (hf : AOf o s s') : GA B G o p s' := by
  obtain ⟨ho, hp⟩ := h.2.1
  exact GA_fr h (by rw [hf.2]) (fun a k x y => hf.1 a k (by omega)) (fun k => ⟨hf.1 _ k (by omega), hf.1 _ k (by omega), hf.1 _ k (by omega)⟩) (hf.1 _ _ (by omega)) (hf.1 _ _ (by omega))
theorem plc_b {B : Brd} {G : Gam} (hB : Bv B) (hG : Gv B G) {m : Int} (m0 : 0 ≤ m) (m1 : m < bM B) (hx : ¬ gx G m = -1) : (0 ≤ gx G m ∧ gx G m < 5 ∧ 0 ≤ gy G m ∧ gy G m < 5) ∧ pl G m = 5 * gy G m + gx G m := by
  have hW : bW B ≤ 5 := hB.1.1.2.1
  have hH : bH B ≤ 5 := hB.1.1.2.2.2.1
  have hp := hG.2.1 m m0 m1
  refine ⟨by omega, ?_⟩
  unfold pl
  rw [if_neg hx]
/-- how far the fields are -/
theorem c_far118 {B : Brd} {G : Gam} {o p f : Nat} {m : Int} (m0 : 0 ≤ m) (m1 : m < bM B) (hx : ¬ gx G m = -1) (K : Nat → Nat → ST → Option (Int32 × ST)) : ∀ (nn F : Nat) (v : Int) (s : ST), GA B G o p s → 0 ≤ v → (nn : Int) = 6 - v → nn < F → (∀ u : Int, 0 ≤ u → u < v → s.1 (o + 8) u.toNat = Int32.ofInt (qFv B G m u)) → ∃ s', f_X3_answerOf_L118 K F o f (Int32.ofInt (pl G m)) (Int32.ofInt v) s = K o f s' ∧ (∀ u : Int, 0 ≤ u → u < 6 → s'.1 (o + 8) u.toNat = Int32.ofInt (qFv B G m u)) ∧ (∀ a k : Nat, ¬ a = o + 8 → s'.1 a k = s.1 a k) ∧ s'.2 = s.2 := by
  intro nn
  induction nn with
  | zero =>
    intro F v s h v0 hn hF hu
    obtain ⟨F, rfl⟩ : ∃ F', F = F' + 1 := ⟨F - 1, by omega⟩
    refine ⟨s, ?_, fun u u0 u1 => hu u u0 (by omega), fun _ _ _ => rfl, rfl⟩
    simp (disch := omega) only [f_X3_answerOf_L118, n_i8, n_i16, n_0, n_31, n_add, n_sub, n_mul, n_neg, n_div, n_rem, n_le_t, n_le_f, n_lt_t, n_lt_f, n_eq_t, n_eq_f, n_cl, n_gd, n_gdt, n_nz, Int.reduceToNat, Int.reduceAdd, Int.reduceSub, Int.reduceMul, Int.reduceNeg, Int.reduceLT, Int.reduceLE, Int.reduceEq, Int.reduceDiv, Int.reduceMod, Nat.reduceAdd, Nat.reduceMul, ↓reduceIte]
  | succ nn ih =>
    intro F v s h v0 hn hF hu
    obtain ⟨F, rfl⟩ : ∃ F', F = F' + 1 := ⟨F - 1, by omega⟩
    obtain ⟨⟨hB, hG⟩, ⟨ho, hp⟩, hP, hPB, hCG⟩ := h
    have hA : GA B G o p s := ⟨⟨hB, hG⟩, ⟨ho, hp⟩, hP, hPB, hCG⟩
    have hF6 : bF B ≤ 6 := hB.1.1.2.2.2.2.2.2.2.2.2
    have hF0 : 0 ≤ bF B := hB.1.1.2.2.2.2.2.2.2.2.1
    have hW : bW B ≤ 5 := hB.1.1.2.1
    have hH : bH B ≤ 5 := hB.1.1.2.2.2.1
    obtain ⟨hb, hpl⟩ := plc_b hB hG m0 m1 hx
    have c12 := hPB.1.2.2.2.2.1
    have hf : ∀ a k : Nat, ¬ (a = o + 8 ∧ k = v.toNat) → (uI s (o + 8) v.toNat (Int32.ofInt (qFv B G m v))).1 a k = s.1 a k := fun a k x => by (simp only [ua, ja, u_2, u_3, j_1, j_3]; (repeat' split) <;> first | rfl | (exfalso; omega))
    obtain ⟨s', q1, q2, q3, q4⟩ := ih F (v + 1) (uI s (o + 8) v.toNat (Int32.ofInt (qFv B G m v))) (GA_fr hA rfl (fun a k x y => hf a k (by omega)) (fun k => ⟨hf _ k (by omega), hf _ k (by omega), hf _ k (by omega)⟩) (hf _ _ (by omega)) (hf _ _ (by omega))) (by omega) (by omega) (by omega) (fun u u0 u1 => by
      by_cases e : u = v
      · subst e; rw [u_eq]
      · rw [hf _ _ (by omega)]; exact hu u u0 (by omega))
    refine ⟨s', ?_, q2, fun a k x => (q3 a k x).trans (hf a k (by omega)), q4⟩
    rw [← q1, f_X3_answerOf_L118]
    by_cases e : v < bF B
    · have c9 := hPB.2.2.2.1 v v0 e
      have hfx := hB.2.2.2.1 v v0 e
      have hfar := c_far (a := pl G m) (b := 5 * fy B v + fx B v) (by omega) (by omega) (by omega) (by omega) s
      have ef : farO (pl G m % 5) (pl G m / 5) ((5 * fy B v + fx B v) % 5) ((5 * fy B v + fx B v) / 5) = qFv B G m v := by
        rw [show pl G m % 5 = gx G m by omega, show pl G m / 5 = gy G m by omega, show (5 * fy B v + fx B v) % 5 = fx B v by omega, show (5 * fy B v + fx B v) / 5 = fy B v by omega, farO_sym]
        unfold qFv
        rw [if_pos e]
      rw [ef] at hfar
      simp (disch := omega) only [f_X3_answerOf_j142, f_X3_answerOf_j176, hP, c12, c9, hfar, g_kk, g_k1, g_n1, g_k2, g_n2, g_k3, g_n3, g_k4, g_n4, g_k5, g_n5, g_k7, g_n7, g_k8, g_n8, g_k9, g_n9, g_k6, g_r3, g_r4, g_r5, g_r6, g_r7, g_r10, g_q0, g_q1, g_q2, p_kk, p_k1, p_n1, p_k2, p_n2, p_k3, p_n3, p_k4, p_n4, p_k5, p_n5, p_k6, p_n6, p_k7, p_n7, p_k8, p_n8, p_k9, p_n9, p_k10, p_n10, p_k11, p_n11, p_k13, p_n13, p_k12, p_r2, p_r4, p_r5, p_r6, p_r7, p_r9, p_r10, p_r11, p_r13, p_r14, p_r15, p_r16, p_h0, n_i8, n_i16, n_0, n_31, n_add, n_sub, n_mul, n_neg, n_div, n_rem, n_le_t, n_le_f, n_lt_t, n_lt_f, n_eq_t, n_eq_f, n_cl, n_gd, n_gdt, n_nz, Int.reduceToNat, Int.reduceAdd, Int.reduceSub, Int.reduceMul, Int.reduceNeg, Int.reduceLT, Int.reduceLE, Int.reduceEq, Int.reduceDiv, Int.reduceMod, Nat.reduceAdd, Nat.reduceMul, ↓reduceIte, u_eq, u_no, u_nk, u_ek, u_2, u_3, j_1, j_3, j_eq, j_no, j_nk, ltd, bnd]
    · have ez : qFv B G m v = 0 := by unfold qFv; rw [if_neg e]
      rw [ez]
      simp (disch := omega) only [f_X3_answerOf_j142, f_X3_answerOf_j176, hP, c12, g_kk, g_k1, g_n1, g_k2, g_n2, g_k3, g_n3, g_k4, g_n4, g_k5, g_n5, g_k7, g_n7, g_k8, g_n8, g_k9, g_n9, g_k6, g_r3, g_r4, g_r5, g_r6, g_r7, g_r10, g_q0, g_q1, g_q2, p_kk, p_k1, p_n1, p_k2, p_n2, p_k3, p_n3, p_k4, p_n4, p_k5, p_n5, p_k6, p_n6, p_k7, p_n7, p_k8, p_n8, p_k9, p_n9, p_k10, p_n10, p_k11, p_n11, p_k13, p_n13, p_k12, p_r2, p_r4, p_r5, p_r6, p_r7, p_r9, p_r10, p_r11, p_r13, p_r14, p_r15, p_r16, p_h0, n_i8, n_i16, n_0, n_31, n_add, n_sub, n_mul, n_neg, n_div, n_rem, n_le_t, n_le_f, n_lt_t, n_lt_f, n_eq_t, n_eq_f, n_cl, n_gd, n_gdt, n_nz, Int.reduceToNat, Int.reduceAdd, Int.reduceSub, Int.reduceMul, Int.reduceNeg, Int.reduceLT, Int.reduceLE, Int.reduceEq, Int.reduceDiv, Int.reduceMod, Nat.reduceAdd, Nat.reduceMul, ↓reduceIte, u_eq, u_no, u_nk, u_ek, u_2, u_3, j_1, j_3, j_eq, j_no, j_nk, ltd, bnd]
def ansT (B : Brd) (G : Gam) (m : Int) (o : Nat) (s : ST) : ST := uI (uI (uI (uI (uI (uI (uI (uI s (o + 7) 22 (Int32.ofInt m)) (o + 7) 23 (Int32.ofInt (gx G m))) (o + 7) 24 (Int32.ofInt (gy G m))) (o + 7) 25 (Int32.ofInt (sd B m))) (o + 7) 7 (Int32.ofInt (wo B (kd B m)))) (o + 7) 6 (Int32.ofInt (rch B (kd B m)))) (o + 7) 26 (Int32.ofInt (nMov B G m))) (o + 7) 21 (Int32.ofInt (gd_ G))
theorem ansT_f {B : Brd} {G : Gam} {m : Int} {o : Nat} {s : ST} {a k : Nat} (h : ¬ a = o + 7) : (ansT B G m o s).1 a k = s.1 a k := by
  unfold ansT
  rw [u_no h, u_no h, u_no h, u_no h, u_no h, u_no h, u_no h, u_no h]
theorem ansT_E {B : Brd} {G : Gam} {m : Int} {o : Nat} {s : ST} : CE o (fun i => 3 ≤ i ∧ i ≤ 10) (qE B G m) (ansT B G m o s) := by
  intro i hi
  have : i = 3 ∨ i = 4 ∨ i = 5 ∨ i = 6 ∨ i = 7 ∨ i = 8 ∨ i = 9 ∨ i = 10 := by omega
  rcases this with rfl | rfl | rfl | rfl | rfl | rfl | rfl | rfl
  · show (ansT B G m o s).1 (o + 7) 21 = Int32.ofInt (gd_ G)
    unfold ansT
    rw [u_eq]
  · show (ansT B G m o s).1 (o + 7) 22 = Int32.ofInt m
    unfold ansT
    rw [u_nk (by omega), u_nk (by omega), u_nk (by omega), u_nk (by omega), u_nk (by omega), u_nk (by omega), u_nk (by omega), u_eq]
  · show (ansT B G m o s).1 (o + 7) 23 = Int32.ofInt (gx G m)
    unfold ansT
    rw [u_nk (by omega), u_nk (by omega), u_nk (by omega), u_nk (by omega), u_nk (by omega), u_nk (by omega), u_eq]
  · show (ansT B G m o s).1 (o + 7) 24 = Int32.ofInt (gy G m)
    unfold ansT
    rw [u_nk (by omega), u_nk (by omega), u_nk (by omega), u_nk (by omega), u_nk (by omega), u_eq]
  · show (ansT B G m o s).1 (o + 7) 25 = Int32.ofInt (sd B m)
    unfold ansT
    rw [u_nk (by omega), u_nk (by omega), u_nk (by omega), u_nk (by omega), u_eq]
  · show (ansT B G m o s).1 (o + 7) 7 = Int32.ofInt (wo B (kd B m))
    unfold ansT
    rw [u_nk (by omega), u_nk (by omega), u_nk (by omega), u_eq]
  · show (ansT B G m o s).1 (o + 7) 6 = Int32.ofInt (rch B (kd B m))
    unfold ansT
    rw [u_nk (by omega), u_nk (by omega), u_eq]
  · show (ansT B G m o s).1 (o + 7) 26 = Int32.ofInt (nMov B G m)
    unfold ansT
    rw [u_nk (by omega), u_eq]
theorem c_ansOf {B : Brd} {G : Gam} {o p : Nat} {s : ST} (h : GA B G o p s) (hd : s.1 o 1 = Int32.ofInt (gd_ G)) {m : Int} (m0 : 0 ≤ m) (m1 : m < bM B) (hx : ¬ gx G m = -1) {l : List Int} {t : Bool} (hl : (l.length : Int) ≤ 1600) (hc : ∀ v ∈ l, cdP true v) (hty : tyL l [] = some [t]) (h34 : s.1 34 1 = Int32.ofInt (l.length : Int)) (h35 : ∀ i : Nat, i < l.length → s.1 35 i = Int32.ofInt (toC (l.getD i 0))) : ∃ s', f_X3_answerOf o 34 (Int32.ofInt m) s = some (Int32.ofInt (qVa B G l m), s') ∧ vt t (qVa B G l m) ∧ AOf o s s' := by
  obtain ⟨⟨hB, hG⟩, ⟨ho, hp⟩, hP, hPB, hCG⟩ := h
  have hA : GA B G o p s := ⟨⟨hB, hG⟩, ⟨ho, hp⟩, hP, hPB, hCG⟩
  have hM : bM B ≤ 8 := hB.1.1.2.2.2.2.2.2.2.1
  have hK : bK B ≤ 5 := hB.1.1.2.2.2.2.2.1
  obtain ⟨hb, hpl⟩ := plc_b hB hG m0 m1 hx
  have hm := hB.2.2.1 m m0 m1
  have hn := nMov_c hB G m
  have cp := hCG.1 m m0 m1
  obtain ⟨cm, cs⟩ := hPB.2.2.1 m m0 m1
  obtain ⟨-, cr1, cw1, -⟩ := hPB.2.1 (kd B m) (by omega) (by omega)
  have hy5 : (5 * gy G m + gx G m) / 5 = gy G m := by omega
  have hx5 : 5 * gy G m + gx G m - gy G m * 5 = gx G m := by omega
  have ft : AOf o s (uI (uI (uI (uI (uI (uI s (o + 7) 22 (Int32.ofInt m)) (o + 7) 23 (Int32.ofInt (gx G m))) (o + 7) 24 (Int32.ofInt (gy G m))) (o + 7) 25 (Int32.ofInt (sd B m))) (o + 7) 7 (Int32.ofInt (wo B (kd B m)))) (o + 7) 6 (Int32.ofInt (rch B (kd B m)))) := ⟨fun a k x => by rw [u_no (by omega), u_no (by omega), u_no (by omega), u_no (by omega), u_no (by omega), u_no (by omega)], rfl⟩
  have hgo := c_goals (GA_ao hA ft) m0 m1
  have hcn := c_cnt (gQ B G m) (uI (uI (uI (uI (uI (uI s (o + 7) 22 (Int32.ofInt m)) (o + 7) 23 (Int32.ofInt (gx G m))) (o + 7) 24 (Int32.ofInt (gy G m))) (o + 7) 25 (Int32.ofInt (sd B m))) (o + 7) 7 (Int32.ofInt (wo B (kd B m)))) (o + 7) 6 (Int32.ofInt (rch B (kd B m))))
  rw [gQ_cnt hB G m] at hcn
  have ef : f_X3_answerOf o 34 (Int32.ofInt m) s = f_X3_answerOf_L118 f_X3_answerOf_j183 fuel o 34 (Int32.ofInt (pl G m)) (Int32.ofInt 0) (ansT B G m o s) := by
    rw [hpl] at cp ⊢
    unfold ansT
    simp (disch := omega) only [f_X3_answerOf, hP, cp, cm, cs, cr1, cw1, hd, hy5, hx5, hgo, hcn, g_kk, g_k1, g_n1, g_k2, g_n2, g_k3, g_n3, g_k4, g_n4, g_k5, g_n5, g_k7, g_n7, g_k8, g_n8, g_k9, g_n9, g_k6, g_r3, g_r4, g_r5, g_r6, g_r7, g_r10, g_q0, g_q1, g_q2, p_kk, p_k1, p_n1, p_k2, p_n2, p_k3, p_n3, p_k4, p_n4, p_k5, p_n5, p_k6, p_n6, p_k7, p_n7, p_k8, p_n8, p_k9, p_n9, p_k10, p_n10, p_k11, p_n11, p_k13, p_n13, p_k12, p_r2, p_r4, p_r5, p_r6, p_r7, p_r9, p_r10, p_r11, p_r13, p_r14, p_r15, p_r16, p_h0, n_i8, n_i16, n_0, n_31, n_add, n_sub, n_mul, n_neg, n_div, n_rem, n_le_t, n_le_f, n_lt_t, n_lt_f, n_eq_t, n_eq_f, n_cl, n_gd, n_gdt, n_nz, Int.reduceToNat, Int.reduceAdd, Int.reduceSub, Int.reduceMul, Int.reduceNeg, Int.reduceLT, Int.reduceLE, Int.reduceEq, Int.reduceDiv, Int.reduceMod, Nat.reduceAdd, Nat.reduceMul, ↓reduceIte, u_eq, u_no, u_nk, u_ek, u_2, u_3, j_1, j_3, j_eq, j_no, j_nk, ltd, bnd]
  have ft2 : AOf o s (ansT B G m o s) := ⟨fun a k x => ansT_f (by omega), rfl⟩
  obtain ⟨s1, q1, q2, q3, q4⟩ := c_far118 (f := 34) m0 m1 hx f_X3_answerOf_j183 6 fuel 0 (ansT B G m o s) (GA_ao hA ft2) (by omega) (by omega) (by unfold fuel; omega) (fun u u0 u1 => by omega)
  have hmem : ∀ i : Int, 0 ≤ i → i < (l.length : Int) → cdP true (l.getD i.toNat 0) := by
    intro i i0 i1
    have hil : i.toNat < l.length := by omega
    rw [show l.getD i.toNat 0 = l[i.toNat] by rw [List.getD_eq_getElem?_getD, List.getElem?_eq_getElem hil]; rfl]
    exact hc _ (List.getElem_mem hil)
  have hup : (upto ((l.length : Int)).toNat 0).map (fun i => l.getD i.toNat 0) = l := by
    have := upto_gtl l l.length 0 (by omega)
    rw [List.drop_zero] at this
    rw [show ((l.length : Int)).toNat = l.length by omega]
    exact this
  have hFC : FC 34 35 (l.length : Int) (fun i => l.getD i.toNat 0) s1 := by
    refine ⟨?_, fun i i0 i1 => ?_⟩
    · rw [q3 34 1 (by omega), ansT_f (by omega)]; exact h34
    · rw [q3 35 _ (by omega), ansT_f (by omega)]; exact h35 i.toNat (by omega)
  obtain ⟨v, s2, e1, e2, e3, e4⟩ := c_reckon ho (f := 34) (g := 35) (Or.inr (Or.inr ⟨rfl, rfl⟩)) (C := fun i => l.getD i.toNat 0) (N := (l.length : Int)) (by omega) hl (U := fun i => 3 ≤ i ∧ i ≤ 10) (V := True) (E := qE B G m) (Fr := qFv B G m) (fun i _ _ => qE_b hB hG m0 m1 hn i) (fun v v0 _ => qFv_b hB hG m0 m1 v0) (fun i i0 i1 a b => by
    rcases hmem i i0 i1 with x | x | ⟨x, -⟩ | ⟨-, x⟩
    · omega
    · omega
    · cases x
    · omega) (fun _ _ _ _ => trivial) (s := s1) hFC (fun i hi => (q3 (o + 7) _ (by omega)).trans (ansT_E i hi)) (fun _ v v0 v1 => q2 v v0 v1) (t := t) (by rw [hup]; exact hty)
  rw [hup] at e1
  have hv : qVa B G l m = v := by unfold qVa; rw [e1]; rfl
  rw [hv]
  refine ⟨s2, ?_, e2, (ft2.tr ⟨fun a k x => q3 a k (by omega), q4⟩).tr e4.ao⟩
  rw [ef, q1]
  simp (disch := omega) only [f_X3_answerOf_j183, e3, g_kk, g_k1, g_n1, g_k2, g_n2, g_k3, g_n3, g_k4, g_n4, g_k5, g_n5, g_k7, g_n7, g_k8, g_n8, g_k9, g_n9, g_k6, g_r3, g_r4, g_r5, g_r6, g_r7, g_r10, g_q0, g_q1, g_q2, p_kk, p_k1, p_n1, p_k2, p_n2, p_k3, p_n3, p_k4, p_n4, p_k5, p_n5, p_k6, p_n6, p_k7, p_n7, p_k8, p_n8, p_k9, p_n9, p_k10, p_n10, p_k11, p_n11, p_k13, p_n13, p_k12, p_r2, p_r4, p_r5, p_r6, p_r7, p_r9, p_r10, p_r11, p_r13, p_r14, p_r15, p_r16, p_h0, n_i8, n_i16, n_0, n_31, n_add, n_sub, n_mul, n_neg, n_div, n_rem, n_le_t, n_le_f, n_lt_t, n_lt_f, n_eq_t, n_eq_f, n_cl, n_gd, n_gdt, n_nz, Int.reduceToNat, Int.reduceAdd, Int.reduceSub, Int.reduceMul, Int.reduceNeg, Int.reduceLT, Int.reduceLE, Int.reduceEq, Int.reduceDiv, Int.reduceMod, Nat.reduceAdd, Nat.reduceMul, ↓reduceIte, u_eq, u_no, u_nk, u_ek, u_2, u_3, j_1, j_3, j_eq, j_no, j_nk, ltd, bnd]
