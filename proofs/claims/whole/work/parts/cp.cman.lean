/-! L3: the class reads men and fields -/
variable {T : Int → Int} {n : Int} {B : Brd} {G : Gam} {N : Int → Int → List Int} {p : Nat}
theorem c_takeK (hp : p = 6 ∨ p = 20) (hV : DV B G N) {r : EX Cur} {s : ST} (h : CG T n r s) (hD : ∃ w : Int → Int, (∀ j : Int, 0 ≤ j → j < 5 → w j = nsl B N j) ∧ ∀ j : Int, 0 ≤ j → j < 5 → s.1 (p + 11) j.toNat = Int32.ofInt (w j)) : ∃ v s', f_X8_takeKind p s = some (v, s') ∧ CFr s s' ∧ RQ (eb r (knS T n B N)) (fun a => v = Int32.ofInt a.1 ∧ CC T n a.2 s') (fun k q => CD k q s') := by
  have hb := hV.1.2.1
  have hsl : ∀ (s1 : ST), CFr s s1 → ∀ v : Int, -1 ≤ v → v < 1073741824 → f_X4_slotOf p (Int32.ofInt v) (Int32.ofInt 5) s1 = some (Int32.ofInt (sdx (nsl B N) v 5 0), s1) := by
    intro s1 hf v v0 v1
    obtain ⟨w, hw1, hw2⟩ := hD
    have key : ∀ (m F : Nat) (i : Int), 0 ≤ i → (5 - i).toNat = m → m < F → i ≤ 5 → f_X4_slotOf_L2 F p (Int32.ofInt v) (Int32.ofInt 5) (Int32.ofInt i) s1 = some (Int32.ofInt (sdx (nsl B N) v m i), s1) := by
      intro m
      induction m with
      | zero =>
        intro F i i0 hm hF i5
        obtain ⟨F, rfl⟩ : ∃ F', F = F' + 1 := ⟨F - 1, by omega⟩
        show _ = some (Int32.ofInt (-1), s1)
        simp (disch := omega) only [f_X4_slotOf_L2, n_i8, n_i16, n_0, n_31, n_add, n_sub, n_mul, n_neg, n_div, n_rem, n_le_t, n_le_f, n_lt_t, n_lt_f, n_eq_t, n_eq_f, n_cl, n_gd, n_gdt, n_nz, Int.reduceToNat, Int.reduceAdd, Int.reduceSub, Int.reduceMul, Int.reduceNeg, Int.reduceLT, Int.reduceLE, Int.reduceEq, Int.reduceDiv, Int.reduceMod, Nat.reduceAdd, Nat.reduceMul, ↓reduceIte]
      | succ m ih =>
        intro F i i0 hm hF i5
        obtain ⟨F, rfl⟩ : ∃ F', F = F' + 1 := ⟨F - 1, by omega⟩
        have hc : s1.1 (p + 11) i.toNat = Int32.ofInt (nsl B N i) := (hf.1 _ _ (by omega)).trans (by rw [hw2 i i0 (by omega), hw1 i i0 (by omega)])
        have hbb := nsl_b hV i i0 (by omega)
        show _ = some (Int32.ofInt (if nsl B N i = v then i else sdx (nsl B N) v m (i + 1)), s1)
        by_cases e : nsl B N i = v
        · rw [if_pos e]
          simp (disch := omega) only [f_X4_slotOf_L2, hc, g_kk, g_k1, g_n1, g_k2, g_n2, g_k3, g_n3, g_k4, g_n4, g_k5, g_n5, g_k7, g_n7, g_k8, g_n8, g_k9, g_n9, g_k6, g_r3, g_r4, g_r5, g_r6, g_r7, g_r10, g_q0, g_q1, g_q2, p_kk, p_k1, p_n1, p_k2, p_n2, p_k3, p_n3, p_k4, p_n4, p_k5, p_n5, p_k6, p_n6, p_k7, p_n7, p_k8, p_n8, p_k9, p_n9, p_k10, p_n10, p_k11, p_n11, p_k13, p_n13, p_k12, p_r2, p_r4, p_r5, p_r6, p_r7, p_r9, p_r10, p_r11, p_r13, p_r14, p_r15, p_r16, p_h0, n_i8, n_i16, n_0, n_31, n_add, n_sub, n_mul, n_neg, n_div, n_rem, n_le_t, n_le_f, n_lt_t, n_lt_f, n_eq_t, n_eq_f, n_cl, n_gd, n_gdt, n_nz, Int.reduceToNat, Int.reduceAdd, Int.reduceSub, Int.reduceMul, Int.reduceNeg, Int.reduceLT, Int.reduceLE, Int.reduceEq, Int.reduceDiv, Int.reduceMod, Nat.reduceAdd, Nat.reduceMul, ↓reduceIte, u_eq, u_no, u_nk, u_ek, u_2, u_3, j_1, j_3, j_eq, j_no, j_nk, ltd, bnd]
        · rw [if_neg e, ← ih F (i + 1) (by omega) (by omega) (by omega) (by omega), f_X4_slotOf_L2]
          simp (disch := omega) only [hc, g_kk, g_k1, g_n1, g_k2, g_n2, g_k3, g_n3, g_k4, g_n4, g_k5, g_n5, g_k7, g_n7, g_k8, g_n8, g_k9, g_n9, g_k6, g_r3, g_r4, g_r5, g_r6, g_r7, g_r10, g_q0, g_q1, g_q2, p_kk, p_k1, p_n1, p_k2, p_n2, p_k3, p_n3, p_k4, p_n4, p_k5, p_n5, p_k6, p_n6, p_k7, p_n7, p_k8, p_n8, p_k9, p_n9, p_k10, p_n10, p_k11, p_n11, p_k13, p_n13, p_k12, p_r2, p_r4, p_r5, p_r6, p_r7, p_r9, p_r10, p_r11, p_r13, p_r14, p_r15, p_r16, p_h0, n_i8, n_i16, n_0, n_31, n_add, n_sub, n_mul, n_neg, n_div, n_rem, n_le_t, n_le_f, n_lt_t, n_lt_f, n_eq_t, n_eq_f, n_cl, n_gd, n_gdt, n_nz, Int.reduceToNat, Int.reduceAdd, Int.reduceSub, Int.reduceMul, Int.reduceNeg, Int.reduceLT, Int.reduceLE, Int.reduceEq, Int.reduceDiv, Int.reduceMod, Nat.reduceAdd, Nat.reduceMul, ↓reduceIte, u_eq, u_no, u_nk, u_ek, u_2, u_3, j_1, j_3, j_eq, j_no, j_nk, ltd, bnd]
    exact key 5 fuel 0 (by omega) (by omega) (by unfold fuel; omega) (by omega)
  have mx : ∀ (w : Int) (s2 : ST), -1 ≤ w → w < 5 → f_X8_takeKind_j32 (Int32.ofInt w) s2 = (f_X5_step s2).bind (fun q6 => some (Int32.ofInt (if 0 < w then w else 0), q6)) := by
    intro w s2 w0 w1
    by_cases e : 0 < w
    · rw [if_pos e]
      simp (disch := omega) only [f_X8_takeKind_j32, n_i8, n_i16, n_0, n_31, n_add, n_sub, n_mul, n_neg, n_div, n_rem, n_le_t, n_le_f, n_lt_t, n_lt_f, n_eq_t, n_eq_f, n_cl, n_gd, n_gdt, n_nz, Int.reduceToNat, Int.reduceAdd, Int.reduceSub, Int.reduceMul, Int.reduceNeg, Int.reduceLT, Int.reduceLE, Int.reduceEq, Int.reduceDiv, Int.reduceMod, Nat.reduceAdd, Nat.reduceMul, ↓reduceIte]
    · rw [if_neg e]
      simp (disch := omega) only [f_X8_takeKind_j32, n_i8, n_i16, n_0, n_31, n_add, n_sub, n_mul, n_neg, n_div, n_rem, n_le_t, n_le_f, n_lt_t, n_lt_f, n_eq_t, n_eq_f, n_cl, n_gd, n_gdt, n_nz, Int.reduceToNat, Int.reduceAdd, Int.reduceSub, Int.reduceMul, Int.reduceNeg, Int.reduceLT, Int.reduceLE, Int.reduceEq, Int.reduceDiv, Int.reduceMod, Nat.reduceAdd, Nat.reduceMul, ↓reduceIte]
  have sb : ∀ v : Int, -1 ≤ sdx (nsl B N) v 5 0 ∧ sdx (nsl B N) v 5 0 < 5 := fun v => by
    rcases sdx_x (g := nsl B N) (v := v) 5 0 (by omega) with ⟨x1, -⟩ | ⟨x1, x2, -⟩
    · omega
    · omega
  have dead : ∀ (k q : Int) (s1 : ST), CD k q s1 → CFr s s1 → ∀ (v : Int), -1 ≤ v → v < 1073741824 → f_X5_nameAtHand s = some (Int32.ofInt v, s1) → ∃ w, f_X8_takeKind p s = some (w, s1) := by
    intro k q s1 hB hf v v0 v1 hnm
    have hs := hsl s1 hf v v0 v1
    have ef := c_failD hB (Int32.ofInt 3) (s1.1 3 1)
    have est := c_stepD hB
    have hx := sb v
    refine ⟨Int32.ofInt (if 0 < sdx (nsl B N) v 5 0 then sdx (nsl B N) v 5 0 else 0), ?_⟩
    have ej : f_X8_takeKind p s = f_X8_takeKind_j32 (Int32.ofInt (sdx (nsl B N) v 5 0)) s1 := by
      by_cases e : 0 ≤ sdx (nsl B N) v 5 0
      · simp (disch := omega) only [f_X8_takeKind, ↓bb hnm, ↓bb hs, g_kk, g_k1, g_n1, g_k2, g_n2, g_k3, g_n3, g_k4, g_n4, g_k5, g_n5, g_k7, g_n7, g_k8, g_n8, g_k9, g_n9, g_k6, g_r3, g_r4, g_r5, g_r6, g_r7, g_r10, g_q0, g_q1, g_q2, p_kk, p_k1, p_n1, p_k2, p_n2, p_k3, p_n3, p_k4, p_n4, p_k5, p_n5, p_k6, p_n6, p_k7, p_n7, p_k8, p_n8, p_k9, p_n9, p_k10, p_n10, p_k11, p_n11, p_k13, p_n13, p_k12, p_r2, p_r4, p_r5, p_r6, p_r7, p_r9, p_r10, p_r11, p_r13, p_r14, p_r15, p_r16, p_h0, n_i8, n_i16, n_0, n_31, n_add, n_sub, n_mul, n_neg, n_div, n_rem, n_le_t, n_le_f, n_lt_t, n_lt_f, n_eq_t, n_eq_f, n_cl, n_gd, n_gdt, n_nz, Int.reduceToNat, Int.reduceAdd, Int.reduceSub, Int.reduceMul, Int.reduceNeg, Int.reduceLT, Int.reduceLE, Int.reduceEq, Int.reduceDiv, Int.reduceMod, Nat.reduceAdd, Nat.reduceMul, ↓reduceIte]
      · simp (disch := omega) only [f_X8_takeKind, ↓bb hnm, ↓bb hs, ↓bb ef, g_kk, g_k1, g_n1, g_k2, g_n2, g_k3, g_n3, g_k4, g_n4, g_k5, g_n5, g_k7, g_n7, g_k8, g_n8, g_k9, g_n9, g_k6, g_r3, g_r4, g_r5, g_r6, g_r7, g_r10, g_q0, g_q1, g_q2, p_kk, p_k1, p_n1, p_k2, p_n2, p_k3, p_n3, p_k4, p_n4, p_k5, p_n5, p_k6, p_n6, p_k7, p_n7, p_k8, p_n8, p_k9, p_n9, p_k10, p_n10, p_k11, p_n11, p_k13, p_n13, p_k12, p_r2, p_r4, p_r5, p_r6, p_r7, p_r9, p_r10, p_r11, p_r13, p_r14, p_r15, p_r16, p_h0, n_i8, n_i16, n_0, n_31, n_add, n_sub, n_mul, n_neg, n_div, n_rem, n_le_t, n_le_f, n_lt_t, n_lt_f, n_eq_t, n_eq_f, n_cl, n_gd, n_gdt, n_nz, Int.reduceToNat, Int.reduceAdd, Int.reduceSub, Int.reduceMul, Int.reduceNeg, Int.reduceLT, Int.reduceLE, Int.reduceEq, Int.reduceDiv, Int.reduceMod, Nat.reduceAdd, Nat.reduceMul, ↓reduceIte]
    rw [ej, mx _ _ hx.1 hx.2, est, bnd]
  cases r with
  | error e =>
    have hB : CD e.1 e.2 s := h
    obtain ⟨w, hw⟩ := dead e.1 e.2 s hB (CFr.rf s) (-1) (by omega) (by omega) (c_nmD hB)
    exact ⟨w, s, hw, CFr.rf s, hB⟩
  | ok c =>
    have hc : CC T n c s := h
    obtain ⟨v, s1, q1, q2, q3⟩ := c_nm hc
    rw [eb_ok]
    unfold knS
    cases eN : namS T n c with
    | error x =>
      rw [eN] at q3
      obtain ⟨u1, u2⟩ := (q3 : v = Int32.ofInt (-1) ∧ CD x.1 x.2 s1)
      subst u1
      obtain ⟨w, hw⟩ := dead x.1 x.2 s1 u2 q2 (-1) (by omega) (by omega) q1
      exact ⟨w, s1, hw, q2, u2⟩
    | ok a =>
      rw [eN] at q3
      obtain ⟨u1, u2, u3, u4, u5⟩ := (q3 : v = Int32.ofInt (b32 a.1) ∧ s1 = s ∧ NV a.1 ∧ a.2 = nx T n c ∧ isW T n c = true)
      subst u2
      subst u1
      have hr := b32_r u3
      have hs := hsl s1 q2 (b32 a.1) (by omega) (by omega)
      have hk := nsl_kind hV u3 5 0 (by omega) (by omega)
      rw [show (bK B - 0).toNat = (bK B).toNat by omega] at hk
      rw [hk] at hs
      have hfb := fdx_b (f := N 0) (nm := a.1) (bK B).toNat 0 (by omega)
      rw [eb_ok]
      by_cases ek : fdx (N 0) a.1 (bK B).toNat 0 = -1
      · rw [if_pos ek]
        rw [ek] at hs
        obtain ⟨s2, f1, f2, f3⟩ := c_fail (k := 3) (p := frm T n c) hc.2.2.2.2.2.2.1 (by omega) (by omega)
        have h31 := hc.2.2.1
        refine ⟨Int32.ofInt 0, s2, ?_, f3, f2⟩
        have ej : f_X8_takeKind p s1 = f_X8_takeKind_j32 (Int32.ofInt (-1)) s2 := by
          simp (disch := omega) only [f_X8_takeKind, ↓bb q1, ↓bb hs, h31, ↓bb f1, g_kk, g_k1, g_n1, g_k2, g_n2, g_k3, g_n3, g_k4, g_n4, g_k5, g_n5, g_k7, g_n7, g_k8, g_n8, g_k9, g_n9, g_k6, g_r3, g_r4, g_r5, g_r6, g_r7, g_r10, g_q0, g_q1, g_q2, p_kk, p_k1, p_n1, p_k2, p_n2, p_k3, p_n3, p_k4, p_n4, p_k5, p_n5, p_k6, p_n6, p_k7, p_n7, p_k8, p_n8, p_k9, p_n9, p_k10, p_n10, p_k11, p_n11, p_k13, p_n13, p_k12, p_r2, p_r4, p_r5, p_r6, p_r7, p_r9, p_r10, p_r11, p_r13, p_r14, p_r15, p_r16, p_h0, n_i8, n_i16, n_0, n_31, n_add, n_sub, n_mul, n_neg, n_div, n_rem, n_le_t, n_le_f, n_lt_t, n_lt_f, n_eq_t, n_eq_f, n_cl, n_gd, n_gdt, n_nz, Int.reduceToNat, Int.reduceAdd, Int.reduceSub, Int.reduceMul, Int.reduceNeg, Int.reduceLT, Int.reduceLE, Int.reduceEq, Int.reduceDiv, Int.reduceMod, Nat.reduceAdd, Nat.reduceMul, ↓reduceIte]
        rw [ej, mx (-1) s2 (by omega) (by omega), c_stepD f2, bnd]
        rfl
      · rw [if_neg ek]
        obtain ⟨s2, t1, t2, t3⟩ := c_step hc
        rw [← u4] at t2
        generalize fdx (N 0) a.1 (bK B).toNat 0 = w at *
        refine ⟨Int32.ofInt w, s2, ?_, t3, rfl, t2⟩
        have ej : f_X8_takeKind p s1 = f_X8_takeKind_j32 (Int32.ofInt w) s1 := by
          simp (disch := omega) only [f_X8_takeKind, ↓bb q1, ↓bb hs, g_kk, g_k1, g_n1, g_k2, g_n2, g_k3, g_n3, g_k4, g_n4, g_k5, g_n5, g_k7, g_n7, g_k8, g_n8, g_k9, g_n9, g_k6, g_r3, g_r4, g_r5, g_r6, g_r7, g_r10, g_q0, g_q1, g_q2, p_kk, p_k1, p_n1, p_k2, p_n2, p_k3, p_n3, p_k4, p_n4, p_k5, p_n5, p_k6, p_n6, p_k7, p_n7, p_k8, p_n8, p_k9, p_n9, p_k10, p_n10, p_k11, p_n11, p_k13, p_n13, p_k12, p_r2, p_r4, p_r5, p_r6, p_r7, p_r9, p_r10, p_r11, p_r13, p_r14, p_r15, p_r16, p_h0, n_i8, n_i16, n_0, n_31, n_add, n_sub, n_mul, n_neg, n_div, n_rem, n_le_t, n_le_f, n_lt_t, n_lt_f, n_eq_t, n_eq_f, n_cl, n_gd, n_gdt, n_nz, Int.reduceToNat, Int.reduceAdd, Int.reduceSub, Int.reduceMul, Int.reduceNeg, Int.reduceLT, Int.reduceLE, Int.reduceEq, Int.reduceDiv, Int.reduceMod, Nat.reduceAdd, Nat.reduceMul, ↓reduceIte]
        rw [ej, mx w s1 (by omega) (by omega), t1, bnd]
        congr 2
        congr 1
        split <;> omega
theorem CG_k {r : EX (Int × Cur)} {s : ST} {v : Int32} (h : RQ r (fun a => v = Int32.ofInt a.1 ∧ CC T n a.2 s) (fun k q => CD k q s)) : CG T n (cu r) s := by
  cases r with
  | error e => exact h
  | ok a => exact h.2
theorem c_held (hp : p = 6 ∨ p = 20) (hV : DV B G N) {s : ST} {x y : Int} (hx : 0 ≤ x ∧ x < bW B ∧ 0 ≤ y ∧ y < bH B) (h8 : s.1 p 8 = Int32.ofInt (bM B)) (hm : ∀ m : Int, 0 ≤ m → m < bM B → s.1 (p + 8) m.toNat = Int32.ofInt (5 * gy G m + gx G m)) : f_X4_isHeld p (Int32.ofInt (y * 5 + x)) s = some (bI (hld B G x y), s) := by
  have hb := hV.1.2.1
  have hW := hV.1.1
  have key : ∀ (m F : Nat) (i : Int), 0 ≤ i → (bM B - i).toNat = m → m < F → i ≤ 8 → f_X4_isHeld_L2 F p (Int32.ofInt (y * 5 + x)) (Int32.ofInt i) s = some (bI ((upto m i).any (fun m => decide (gx G m = x ∧ gy G m = y))), s) := by
    intro m
    induction m with
    | zero =>
      intro F i i0 hmi hF i8
      obtain ⟨F, rfl⟩ : ∃ F', F = F' + 1 := ⟨F - 1, by omega⟩
      show _ = some (Int32.ofInt 0, s)
      simp (disch := omega) only [f_X4_isHeld_L2, h8, g_kk, g_k1, g_n1, g_k2, g_n2, g_k3, g_n3, g_k4, g_n4, g_k5, g_n5, g_k7, g_n7, g_k8, g_n8, g_k9, g_n9, g_k6, g_r3, g_r4, g_r5, g_r6, g_r7, g_r10, g_q0, g_q1, g_q2, p_kk, p_k1, p_n1, p_k2, p_n2, p_k3, p_n3, p_k4, p_n4, p_k5, p_n5, p_k6, p_n6, p_k7, p_n7, p_k8, p_n8, p_k9, p_n9, p_k10, p_n10, p_k11, p_n11, p_k13, p_n13, p_k12, p_r2, p_r4, p_r5, p_r6, p_r7, p_r9, p_r10, p_r11, p_r13, p_r14, p_r15, p_r16, p_h0, n_i8, n_i16, n_0, n_31, n_add, n_sub, n_mul, n_neg, n_div, n_rem, n_le_t, n_le_f, n_lt_t, n_lt_f, n_eq_t, n_eq_f, n_cl, n_gd, n_gdt, n_nz, Int.reduceToNat, Int.reduceAdd, Int.reduceSub, Int.reduceMul, Int.reduceNeg, Int.reduceLT, Int.reduceLE, Int.reduceEq, Int.reduceDiv, Int.reduceMod, Nat.reduceAdd, Nat.reduceMul, ↓reduceIte]
    | succ m ih =>
      intro F i i0 hmi hF i8
      obtain ⟨F, rfl⟩ : ∃ F', F = F' + 1 := ⟨F - 1, by omega⟩
      have hc := hm i i0 (by omega)
      obtain ⟨g1, g2, g3, g4⟩ := hV.2.2.1.1 i i0 (by omega)
      have eu : (upto (m + 1) i).any (fun m => decide (gx G m = x ∧ gy G m = y)) = (decide (gx G i = x ∧ gy G i = y) || (upto m (i + 1)).any (fun m => decide (gx G m = x ∧ gy G m = y))) := rfl
      rw [eu]
      by_cases e : gx G i = x ∧ gy G i = y
      · rw [decide_eq_true e, Bool.true_or]
        have : 5 * gy G i + gx G i = y * 5 + x := by omega
        simp (disch := omega) only [f_X4_isHeld_L2, h8, hc, bI_t, g_kk, g_k1, g_n1, g_k2, g_n2, g_k3, g_n3, g_k4, g_n4, g_k5, g_n5, g_k7, g_n7, g_k8, g_n8, g_k9, g_n9, g_k6, g_r3, g_r4, g_r5, g_r6, g_r7, g_r10, g_q0, g_q1, g_q2, p_kk, p_k1, p_n1, p_k2, p_n2, p_k3, p_n3, p_k4, p_n4, p_k5, p_n5, p_k6, p_n6, p_k7, p_n7, p_k8, p_n8, p_k9, p_n9, p_k10, p_n10, p_k11, p_n11, p_k13, p_n13, p_k12, p_r2, p_r4, p_r5, p_r6, p_r7, p_r9, p_r10, p_r11, p_r13, p_r14, p_r15, p_r16, p_h0, n_i8, n_i16, n_0, n_31, n_add, n_sub, n_mul, n_neg, n_div, n_rem, n_le_t, n_le_f, n_lt_t, n_lt_f, n_eq_t, n_eq_f, n_cl, n_gd, n_gdt, n_nz, Int.reduceToNat, Int.reduceAdd, Int.reduceSub, Int.reduceMul, Int.reduceNeg, Int.reduceLT, Int.reduceLE, Int.reduceEq, Int.reduceDiv, Int.reduceMod, Nat.reduceAdd, Nat.reduceMul, ↓reduceIte, u_eq, u_no, u_nk, u_ek, u_2, u_3, j_1, j_3, j_eq, j_no, j_nk, ltd, bnd]
      · rw [decide_eq_false e, Bool.false_or, ← ih F (i + 1) (by omega) (by omega) (by omega) (by omega), f_X4_isHeld_L2]
        have : ¬ 5 * gy G i + gx G i = y * 5 + x := by omega
        simp (disch := omega) only [h8, hc, g_kk, g_k1, g_n1, g_k2, g_n2, g_k3, g_n3, g_k4, g_n4, g_k5, g_n5, g_k7, g_n7, g_k8, g_n8, g_k9, g_n9, g_k6, g_r3, g_r4, g_r5, g_r6, g_r7, g_r10, g_q0, g_q1, g_q2, p_kk, p_k1, p_n1, p_k2, p_n2, p_k3, p_n3, p_k4, p_n4, p_k5, p_n5, p_k6, p_n6, p_k7, p_n7, p_k8, p_n8, p_k9, p_n9, p_k10, p_n10, p_k11, p_n11, p_k13, p_n13, p_k12, p_r2, p_r4, p_r5, p_r6, p_r7, p_r9, p_r10, p_r11, p_r13, p_r14, p_r15, p_r16, p_h0, n_i8, n_i16, n_0, n_31, n_add, n_sub, n_mul, n_neg, n_div, n_rem, n_le_t, n_le_f, n_lt_t, n_lt_f, n_eq_t, n_eq_f, n_cl, n_gd, n_gdt, n_nz, Int.reduceToNat, Int.reduceAdd, Int.reduceSub, Int.reduceMul, Int.reduceNeg, Int.reduceLT, Int.reduceLE, Int.reduceEq, Int.reduceDiv, Int.reduceMod, Nat.reduceAdd, Nat.reduceMul, ↓reduceIte, u_eq, u_no, u_nk, u_ek, u_2, u_3, j_1, j_3, j_eq, j_no, j_nk, ltd, bnd]
  exact key (bM B).toNat fuel 0 (by omega) (by omega) (by unfold fuel; omega) (by omega)
theorem c_held_any (hp : p = 6 ∨ p = 20) {s : ST} {v : Int} (v0 : 0 ≤ v) (v8 : v ≤ 8) (h8 : s.1 p 8 = Int32.ofInt v) (w : Int32) : ∃ b, f_X4_isHeld p w s = some (b, s) := by
  have key : ∀ (m F : Nat) (i : Int), 0 ≤ i → (v - i).toNat = m → m < F → i ≤ 8 → ∃ b, f_X4_isHeld_L2 F p w (Int32.ofInt i) s = some (b, s) := by
    intro m
    induction m with
    | zero =>
      intro F i i0 hmi hF i8
      obtain ⟨F, rfl⟩ : ∃ F', F = F' + 1 := ⟨F - 1, by omega⟩
      refine ⟨Int32.ofInt 0, ?_⟩
      simp (disch := omega) only [f_X4_isHeld_L2, h8, g_kk, g_k1, g_n1, g_k2, g_n2, g_k3, g_n3, g_k4, g_n4, g_k5, g_n5, g_k7, g_n7, g_k8, g_n8, g_k9, g_n9, g_k6, g_r3, g_r4, g_r5, g_r6, g_r7, g_r10, g_q0, g_q1, g_q2, p_kk, p_k1, p_n1, p_k2, p_n2, p_k3, p_n3, p_k4, p_n4, p_k5, p_n5, p_k6, p_n6, p_k7, p_n7, p_k8, p_n8, p_k9, p_n9, p_k10, p_n10, p_k11, p_n11, p_k13, p_n13, p_k12, p_r2, p_r4, p_r5, p_r6, p_r7, p_r9, p_r10, p_r11, p_r13, p_r14, p_r15, p_r16, p_h0, n_i8, n_i16, n_0, n_31, n_add, n_sub, n_mul, n_neg, n_div, n_rem, n_le_t, n_le_f, n_lt_t, n_lt_f, n_eq_t, n_eq_f, n_cl, n_gd, n_gdt, n_nz, Int.reduceToNat, Int.reduceAdd, Int.reduceSub, Int.reduceMul, Int.reduceNeg, Int.reduceLT, Int.reduceLE, Int.reduceEq, Int.reduceDiv, Int.reduceMod, Nat.reduceAdd, Nat.reduceMul, ↓reduceIte]
    | succ m ih =>
      intro F i i0 hmi hF i8
      obtain ⟨F, rfl⟩ : ∃ F', F = F' + 1 := ⟨F - 1, by omega⟩
      obtain ⟨b, hbb⟩ := ih F (i + 1) (by omega) (by omega) (by omega) (by omega)
      by_cases e : s.1 (p + 8) i.toNat = w
      · refine ⟨Int32.ofInt 1, ?_⟩
        rw [f_X4_isHeld_L2]
        simp (disch := omega) only [h8, e, g_kk, g_k1, g_n1, g_k2, g_n2, g_k3, g_n3, g_k4, g_n4, g_k5, g_n5, g_k7, g_n7, g_k8, g_n8, g_k9, g_n9, g_k6, g_r3, g_r4, g_r5, g_r6, g_r7, g_r10, g_q0, g_q1, g_q2, p_kk, p_k1, p_n1, p_k2, p_n2, p_k3, p_n3, p_k4, p_n4, p_k5, p_n5, p_k6, p_n6, p_k7, p_n7, p_k8, p_n8, p_k9, p_n9, p_k10, p_n10, p_k11, p_n11, p_k13, p_n13, p_k12, p_r2, p_r4, p_r5, p_r6, p_r7, p_r9, p_r10, p_r11, p_r13, p_r14, p_r15, p_r16, p_h0, n_i8, n_i16, n_0, n_31, n_add, n_sub, n_mul, n_neg, n_div, n_rem, n_le_t, n_le_f, n_lt_t, n_lt_f, n_eq_t, n_eq_f, n_cl, n_gd, n_gdt, n_nz, Int.reduceToNat, Int.reduceAdd, Int.reduceSub, Int.reduceMul, Int.reduceNeg, Int.reduceLT, Int.reduceLE, Int.reduceEq, Int.reduceDiv, Int.reduceMod, Nat.reduceAdd, Nat.reduceMul, ↓reduceIte, u_eq, u_no, u_nk, u_ek, u_2, u_3, j_1, j_3, j_eq, j_no, j_nk, ltd, bnd]
      · refine ⟨b, ?_⟩
        rw [← hbb, f_X4_isHeld_L2]
        simp (disch := omega) only [h8, e, g_kk, g_k1, g_n1, g_k2, g_n2, g_k3, g_n3, g_k4, g_n4, g_k5, g_n5, g_k7, g_n7, g_k8, g_n8, g_k9, g_n9, g_k6, g_r3, g_r4, g_r5, g_r6, g_r7, g_r10, g_q0, g_q1, g_q2, p_kk, p_k1, p_n1, p_k2, p_n2, p_k3, p_n3, p_k4, p_n4, p_k5, p_n5, p_k6, p_n6, p_k7, p_n7, p_k8, p_n8, p_k9, p_n9, p_k10, p_n10, p_k11, p_n11, p_k13, p_n13, p_k12, p_r2, p_r4, p_r5, p_r6, p_r7, p_r9, p_r10, p_r11, p_r13, p_r14, p_r15, p_r16, p_h0, n_i8, n_i16, n_0, n_31, n_add, n_sub, n_mul, n_neg, n_div, n_rem, n_le_t, n_le_f, n_lt_t, n_lt_f, n_eq_t, n_eq_f, n_cl, n_gd, n_gdt, n_nz, Int.reduceToNat, Int.reduceAdd, Int.reduceSub, Int.reduceMul, Int.reduceNeg, Int.reduceLT, Int.reduceLE, Int.reduceEq, Int.reduceDiv, Int.reduceMod, Nat.reduceAdd, Nat.reduceMul, ↓reduceIte, u_eq, u_no, u_nk, u_ek, u_2, u_3, j_1, j_3, j_eq, j_no, j_nk, ltd, bnd]
  exact key v.toNat fuel 0 (by omega) (by omega) (by unfold fuel; omega) (by omega)
theorem c_manT (hp : p = 6 ∨ p = 20) {c : Cur} {s : ST} (hV : DV B G N) (hD : CDf B G N p s) (hc : CC T n c s) : ∃ s', f_X8_newMan p s = some s' ∧ CBp p s s' ∧ (bM B = 8 → CD 5 (frm T n c) s') ∧ (¬ bM B = 8 → RQ (manS T n B G N (nx T n c)) (fun a => CDf (addM B a.1.2.1 a.1.2.2.1) (gMn G (bM B) a.1.2.2.2.1 a.1.2.2.2.2) (adN N 1 (bM B) a.1.1) p s' ∧ CC T n a.2 s') (fun k q => CD k q s')) := by
  have hVb := hV.1.2.1
  have hWb := hV.1.1
  have h8 := hD.1.1.2.2.2.1
  have hW0 := hD.1.1.1
  have hH0 := hD.1.1.2.1
  obtain ⟨be1, be2⟩ := c_begins hc (v := bM B) (m := 8) (by omega) (by omega) (by omega) (by omega)
  by_cases e8 : bM B = 8
  · obtain ⟨s', q1, q2, q3⟩ := be2 (by omega)
    refine ⟨s', ?_, q3.bp p, fun _ => q2, fun x => absurd e8 x⟩
    simp (disch := omega) only [f_X8_newMan, h8, ↓bb q1, g_kk, g_k1, g_n1, g_k2, g_n2, g_k3, g_n3, g_k4, g_n4, g_k5, g_n5, g_k7, g_n7, g_k8, g_n8, g_k9, g_n9, g_k6, g_r3, g_r4, g_r5, g_r6, g_r7, g_r10, g_q0, g_q1, g_q2, p_kk, p_k1, p_n1, p_k2, p_n2, p_k3, p_n3, p_k4, p_n4, p_k5, p_n5, p_k6, p_n6, p_k7, p_n7, p_k8, p_n8, p_k9, p_n9, p_k10, p_n10, p_k11, p_n11, p_k13, p_n13, p_k12, p_r2, p_r4, p_r5, p_r6, p_r7, p_r9, p_r10, p_r11, p_r13, p_r14, p_r15, p_r16, p_h0, n_i8, n_i16, n_0, n_31, n_add, n_sub, n_mul, n_neg, n_div, n_rem, n_le_t, n_le_f, n_lt_t, n_lt_f, n_eq_t, n_eq_f, n_cl, n_gd, n_gdt, n_nz, Int.reduceToNat, Int.reduceAdd, Int.reduceSub, Int.reduceMul, Int.reduceNeg, Int.reduceLT, Int.reduceLE, Int.reduceEq, Int.reduceDiv, Int.reduceMod, Nat.reduceAdd, Nat.reduceMul, ↓reduceIte]
  · obtain ⟨s1, q1, r1, p1⟩ := be1 (by omega)
    have hD1 := CDf_fr hD (s' := s1) (fun o k x y => p1.1 o k (by omega))
    obtain ⟨s2, q2, p2, p2b, r2⟩ := c_newN hp hV r1 hD1.2.2.2.2 (sl := 5 + bM B) (by omega) (by omega)
    obtain ⟨s3, q3, p3, r3⟩ := k_tW (CG_c r2) (k := 10) (by omega)
    have q3 : f_X5_takeWord (Int32.ofInt 10) s2 = some s3 := q3
    obtain ⟨v4, s4, q4, p4, r4⟩ := c_takeK hp hV r3 ⟨nsl B N, fun _ _ _ => rfl, fun j j0 j1 => (p3.1 _ _ (by omega)).trans ((p2 _ _ (by omega) (by omega)).trans (hD1.2.2.2.2 j j0 (by omega)))⟩
    have f5 : ∀ o k : Nat, ¬ (o = p + 6 ∧ k = (bM B).toNat) → (uI s4 (p + 6) (bM B).toNat v4).1 o k = s4.1 o k := fun o k x => by (simp only [ua, ja, u_2, u_3, j_1, j_3]; (repeat' split) <;> first | rfl | (exfalso; omega))
    obtain ⟨s6, q6, p6, r6⟩ := k_tW (CG_fr (CG_k r4) (s' := uI s4 (p + 6) (bM B).toNat v4) (fun o k x => f5 o k (by omega))) (k := 11) (by omega)
    have q6 : f_X5_takeWord (Int32.ofInt 11) (uI s4 (p + 6) (bM B).toNat v4) = some s6 := q6
    obtain ⟨v7, s7, q7, p7, r7⟩ := k_tN r6 (lo := 0) (hi := 1) (by omega) (by omega) (by omega) (by omega)
    have f8 : ∀ o k : Nat, ¬ (o = p + 7 ∧ k = (bM B).toNat) → (uI s7 (p + 7) (bM B).toNat v7).1 o k = s7.1 o k := fun o k x => by (simp only [ua, ja, u_2, u_3, j_1, j_3]; (repeat' split) <;> first | rfl | (exfalso; omega))
    obtain ⟨s9, q9, p9, r9⟩ := k_tW (CG_fr (CG_cu r7) (s' := uI s7 (p + 7) (bM B).toNat v7) (fun o k x => f8 o k (by omega))) (k := 12) (by omega)
    have q9 : f_X5_takeWord (Int32.ofInt 12) (uI s7 (p + 7) (bM B).toNat v7) = some s9 := q9
    obtain ⟨v11, s11, q11, p11, r11⟩ := k_tN r9 (lo := 0) (hi := bW B - 1) (by omega) (by omega) (by omega) (by omega)
    obtain ⟨v12, s12, q12, p12, r12⟩ := k_tN (CG_cu r11) (lo := 0) (hi := bH B - 1) (by omega) (by omega) (by omega) (by omega)
    have hcl : (Int32.ofInt (bM B)).toNatClampNeg = (bM B).toNat := n_cl (by omega) (by omega)
    have FA9 : ∀ o k : Nat, ¬ o = 3 → ¬ ((p + 6 ≤ o ∧ o ≤ p + 7 ∧ k = (bM B).toNat) ∨ (o = p + 11 ∧ k = (5 + bM B).toNat)) → s9.1 o k = s.1 o k := fun o k x y => by
      rw [p9.1 o k x, f8 o k (by omega), p7.1 o k x, p6.1 o k x, f5 o k (by omega), p4.1 o k x, p3.1 o k x, p2 o k x (by omega), p1.1 o k x]
    have FA : ∀ o k : Nat, ¬ o = 3 → ¬ ((p + 6 ≤ o ∧ o ≤ p + 7 ∧ k = (bM B).toNat) ∨ (o = p + 11 ∧ k = (5 + bM B).toNat)) → s12.1 o k = s.1 o k := fun o k x y => by
      rw [p12.1 o k x, p11.1 o k x]; exact FA9 o k x y
    have FL : s12.2 = s.2 := by
      rw [p12.2, p11.2, p9.2]
      show s7.2 = s.2
      rw [p7.2, p6.2]
      show s4.2 = s.2
      rw [p4.2, p3.2, p2b, p1.2]
    have hW9 : s9.1 p 0 = Int32.ofInt (bW B) := (FA9 p 0 (by omega) (by omega)).trans hW0
    have hH11 : s11.1 p 1 = Int32.ofInt (bH B) := (p11.1 p 1 (by omega)).trans ((FA9 p 1 (by omega) (by omega)).trans hH0)
    have ef : f_X8_newMan p s = (f_X4_isHeld p ((v12 * (Int32.ofInt 5)) + v11) s12).bind (fun q20 => (if q20.1 = 0 then f_X8_newMan_j144 p (Int32.ofInt (bM B)) ((v12 * (Int32.ofInt 5)) + v11) q20.2 else (f_X5_fail (Int32.ofInt 2) (s11.1 3 1) q20.2).bind (fun q22 => f_X8_newMan_j144 p (Int32.ofInt (bM B)) ((v12 * (Int32.ofInt 5)) + v11) q22))) := by
      simp (disch := omega) only [f_X8_newMan, h8, ↓bb q1, ↓bb q2, ↓bb q3, ↓bb q4, ↓bb q6, ↓bb q7, ↓bb q9, hW9, ↓bb q11, hH11, ↓bb q12, hcl, g_kk, g_k1, g_n1, g_k2, g_n2, g_k3, g_n3, g_k4, g_n4, g_k5, g_n5, g_k7, g_n7, g_k8, g_n8, g_k9, g_n9, g_k6, g_r3, g_r4, g_r5, g_r6, g_r7, g_r10, g_q0, g_q1, g_q2, p_kk, p_k1, p_n1, p_k2, p_n2, p_k3, p_n3, p_k4, p_n4, p_k5, p_n5, p_k6, p_n6, p_k7, p_n7, p_k8, p_n8, p_k9, p_n9, p_k10, p_n10, p_k11, p_n11, p_k13, p_n13, p_k12, p_r2, p_r4, p_r5, p_r6, p_r7, p_r9, p_r10, p_r11, p_r13, p_r14, p_r15, p_r16, p_h0, n_i8, n_i16, n_0, n_31, n_add, n_sub, n_mul, n_neg, n_div, n_rem, n_le_t, n_le_f, n_lt_t, n_lt_f, n_eq_t, n_eq_f, n_cl, n_gd, n_gdt, n_nz, Int.reduceToNat, Int.reduceAdd, Int.reduceSub, Int.reduceMul, Int.reduceNeg, Int.reduceLT, Int.reduceLE, Int.reduceEq, Int.reduceDiv, Int.reduceMod, Nat.reduceAdd, Nat.reduceMul, ↓reduceIte, u_eq, u_no, u_nk, u_ek, u_2, u_3, j_1, j_3, j_eq, j_no, j_nk, ltd, bnd]
    have Fx : CBp p s s12 := ⟨fun o k x y => FA o k x (by omega), FL⟩
    rw [ef]
    have last : ∀ (w : Int32) (t : ST), f_X8_newMan_j144 p (Int32.ofInt (bM B)) w t = some (uI (uI t (p + 8) (bM B).toNat w) p 8 (Int32.ofInt (bM B + 1))) := by
      intro w t
      simp (disch := omega) only [f_X8_newMan_j144, hcl, g_kk, g_k1, g_n1, g_k2, g_n2, g_k3, g_n3, g_k4, g_n4, g_k5, g_n5, g_k7, g_n7, g_k8, g_n8, g_k9, g_n9, g_k6, g_r3, g_r4, g_r5, g_r6, g_r7, g_r10, g_q0, g_q1, g_q2, p_kk, p_k1, p_n1, p_k2, p_n2, p_k3, p_n3, p_k4, p_n4, p_k5, p_n5, p_k6, p_n6, p_k7, p_n7, p_k8, p_n8, p_k9, p_n9, p_k10, p_n10, p_k11, p_n11, p_k13, p_n13, p_k12, p_r2, p_r4, p_r5, p_r6, p_r7, p_r9, p_r10, p_r11, p_r13, p_r14, p_r15, p_r16, p_h0, n_i8, n_i16, n_0, n_31, n_add, n_sub, n_mul, n_neg, n_div, n_rem, n_le_t, n_le_f, n_lt_t, n_lt_f, n_eq_t, n_eq_f, n_cl, n_gd, n_gdt, n_nz, Int.reduceToNat, Int.reduceAdd, Int.reduceSub, Int.reduceMul, Int.reduceNeg, Int.reduceLT, Int.reduceLE, Int.reduceEq, Int.reduceDiv, Int.reduceMod, Nat.reduceAdd, Nat.reduceMul, ↓reduceIte, u_eq, u_no, u_nk, u_ek, u_2, u_3, j_1, j_3, j_eq, j_no, j_nk, ltd, bnd]
    have fl : ∀ (w : Int32) (t : ST) (o k : Nat), ¬ (o = p + 8 ∧ k = (bM B).toNat) → ¬ (o = p ∧ k = 8) → (uI (uI t (p + 8) (bM B).toNat w) p 8 (Int32.ofInt (bM B + 1))).1 o k = t.1 o k := fun w t o k x z => by (simp only [ua, ja, u_2, u_3, j_1, j_3]; (repeat' split) <;> first | rfl | (exfalso; omega))
    have bad : ∀ e : Int × Int, CD e.1 e.2 s12 → manS T n B G N (nx T n c) = .error e → ∃ s', (f_X4_isHeld p ((v12 * (Int32.ofInt 5)) + v11) s12).bind (fun q20 => (if q20.1 = 0 then f_X8_newMan_j144 p (Int32.ofInt (bM B)) ((v12 * (Int32.ofInt 5)) + v11) q20.2 else (f_X5_fail (Int32.ofInt 2) (s11.1 3 1) q20.2).bind (fun q22 => f_X8_newMan_j144 p (Int32.ofInt (bM B)) ((v12 * (Int32.ofInt 5)) + v11) q22))) = some s' ∧ CBp p s s' ∧ (bM B = 8 → CD 5 (frm T n c) s') ∧ (¬ bM B = 8 → RQ (manS T n B G N (nx T n c)) (fun a => CDf (addM B a.1.2.1 a.1.2.2.1) (gMn G (bM B) a.1.2.2.2.1 a.1.2.2.2.2) (adN N 1 (bM B) a.1.1) p s' ∧ CC T n a.2 s') (fun k q => CD k q s')) := by
      intro e hB he
      have h812 : s12.1 p 8 = Int32.ofInt (bM B) := (FA p 8 (by omega) (by omega)).trans h8
      obtain ⟨b, hbb⟩ := c_held_any hp (by omega) (by omega) h812 ((v12 * (Int32.ofInt 5)) + v11)
      have efd := c_failD hB (Int32.ofInt 2) (s11.1 3 1)
      have hl := last ((v12 * (Int32.ofInt 5)) + v11) s12
      refine ⟨_, ?_, Fx.tr ⟨fun o k x y => fl ((v12 * (Int32.ofInt 5)) + v11) _ o k (by omega) (by omega), rfl⟩, fun x => absurd x e8, fun _ => by rw [he]; exact CD_fr hB (fun k => fl ((v12 * (Int32.ofInt 5)) + v11) _ 3 k (by omega) (by omega))⟩
      rw [← hl, hbb, bnd]
      by_cases x : b = 0
      · rw [if_pos (show ((b, s12) : Int32 × ST).1 = 0 from x)]
      · rw [if_neg (show ¬ ((b, s12) : Int32 × ST).1 = 0 from x), efd, bnd]
    cases e1 : nmS T n (dupD B N) (nx T n c) with
    | error x => exact bad x (by simp only [cu, eb_ok, e1, eb_er] at r12; exact r12.2) (by unfold manS; rw [e1]; rfl)
    | ok a1 =>
    cases e2 : tkW T n 10 a1.2 with
    | error x => exact bad x (by simp only [cu, eb_ok, e1, e2, eb_er] at r12; exact r12.2) (by unfold manS; rw [e1, eb_ok, e2]; rfl)
    | ok c2 =>
    cases e3 : knS T n B N c2 with
    | error x => exact bad x (by simp only [cu, eb_ok, e1, e2, e3, eb_er] at r12; exact r12.2) (by unfold manS; rw [e1, eb_ok, e2, eb_ok, e3]; rfl)
    | ok a3 =>
    cases e4 : tkW T n 11 a3.2 with
    | error x => exact bad x (by simp only [cu, eb_ok, e1, e2, e3, e4, eb_er] at r12; exact r12.2) (by unfold manS; rw [e1, eb_ok, e2, eb_ok, e3, eb_ok, e4]; rfl)
    | ok c4 =>
    cases e5 : numS T n c4 0 1 with
    | error x => exact bad x (by simp only [cu, eb_ok, e1, e2, e3, e4, e5, eb_er] at r12; exact r12.2) (by unfold manS; rw [e1, eb_ok, e2, eb_ok, e3, eb_ok, e4, eb_ok, e5]; rfl)
    | ok a5 =>
    cases e6 : tkW T n 12 a5.2 with
    | error x => exact bad x (by simp only [cu, eb_ok, e1, e2, e3, e4, e5, e6, eb_er] at r12; exact r12.2) (by unfold manS; rw [e1, eb_ok, e2, eb_ok, e3, eb_ok, e4, eb_ok, e5, eb_ok, e6]; rfl)
    | ok c6 =>
    cases e7 : plcS T n (bW B) (bH B) c6 with
    | error x =>
      refine bad x ?_ (by unfold manS; rw [e1, eb_ok, e2, eb_ok, e3, eb_ok, e4, eb_ok, e5, eb_ok, e6, eb_ok, e7]; rfl)
      simp only [cu, eb_ok, e1, e2, e3, e4, e5, e6] at r12
      unfold plcS at e7
      cases ex : numS T n c6 0 (bW B - 1) with
      | error z => rw [ex] at e7 r12; cases e7; exact r12.2
      | ok ax =>
        rw [ex, eb_ok] at e7
        rw [ex] at r12
        have r12 : RQ (numS T n ax.2 0 (bH B - 1)) _ _ := r12
        cases ey : numS T n ax.2 0 (bH B - 1) with
        | error z => rw [ey] at e7 r12; cases e7; exact r12.2
        | ok ay => rw [ey] at e7; cases e7
    | ok a7 =>
    simp only [cu, eb_ok, e1, e2, e3, e4, e5, e6] at r2 r4 r7 r11 r12
    have e7' := e7
    unfold plcS at e7'
    obtain ⟨ax, ex, e7'⟩ := eb_v e7'
    obtain ⟨ay, ey, e7'⟩ := eb_v e7'
    rw [ex] at r11 r12
    have r12 : RQ (numS T n ax.2 0 (bH B - 1)) (fun a => v12 = Int32.ofInt a.1 ∧ CC T n a.2 s12) _ := r12
    rw [ey] at r12
    have ea7 : a7 = ((ax.1, ay.1, frm T n ax.2), ay.2) := by cases e7'; rfl
    have hcx : CC T n ax.2 s11 := r11.2
    have h31 : s11.1 3 1 = Int32.ofInt (frm T n ax.2) := hcx.2.2.1
    have u2 : s2.1 (p + 11) (5 + bM B).toNat = Int32.ofInt (b32 a1.1) := r2.2
    have u4 : v4 = Int32.ofInt a3.1 := r4.1
    have u7 : v7 = Int32.ofInt a5.1 := r7.1
    have u11 : v11 = Int32.ofInt ax.1 := r11.1
    have u12 : v12 = Int32.ofInt ay.1 := r12.1
    have hC12 : CC T n ay.2 s12 := r12.2
    have vx := (numS_v ex).2.2.1
    have vy := (numS_v ey).2.2.1
    have ew : (v12 * (Int32.ofInt 5)) + v11 = Int32.ofInt (ay.1 * 5 + ax.1) := by rw [u11, u12, n_mul, n_add]
    have hh := c_held hp hV (s := s12) (x := ax.1) (y := ay.1) ⟨vx.1, by omega, vy.1, by omega⟩ ((FA p 8 (by omega) (by omega)).trans h8) (fun m m0 m1 => (FA _ _ (by omega) (by omega)).trans (hD.2.2.1 m m0 m1))
    rw [ew]
    have hS : manS T n B G N (nx T n c) = if hld B G ax.1 ay.1 = true then .error (2, frm T n ax.2) else .ok ((a1.1, a3.1, a5.1, ax.1, ay.1), ay.2) := by unfold manS; rw [e1, eb_ok, e2, eb_ok, e3, eb_ok, e4, eb_ok, e5, eb_ok, e6, eb_ok, e7, ea7]; rfl
    cases eh : hld B G ax.1 ay.1 with
    | true =>
      rw [eh] at hh
      obtain ⟨s13, t1, t2, t3⟩ := c_fail (k := 2) (p := frm T n ax.2) hC12.2.2.2.2.2.2.1 (by omega) (by omega)
      have hl := last (Int32.ofInt (ay.1 * 5 + ax.1)) s13
      refine ⟨_, ?_, (Fx.tr (t3.bp p)).tr ⟨fun o k x y => fl (Int32.ofInt (ay.1 * 5 + ax.1)) _ o k (by omega) (by omega), rfl⟩, fun x => absurd x e8, fun _ => by rw [hS, if_pos eh]; exact CD_fr t2 (fun k => fl (Int32.ofInt (ay.1 * 5 + ax.1)) _ 3 k (by omega) (by omega))⟩
      rw [← hl]
      have hh : f_X4_isHeld p (Int32.ofInt (ay.1 * 5 + ax.1)) s12 = some (Int32.ofInt 1, s12) := hh
      simp (disch := omega) only [↓bb hh, h31, ↓bb t1, n_i8, n_i16, n_0, n_31, n_add, n_sub, n_mul, n_neg, n_div, n_rem, n_le_t, n_le_f, n_lt_t, n_lt_f, n_eq_t, n_eq_f, n_cl, n_gd, n_gdt, n_nz, Int.reduceToNat, Int.reduceAdd, Int.reduceSub, Int.reduceMul, Int.reduceNeg, Int.reduceLT, Int.reduceLE, Int.reduceEq, Int.reduceDiv, Int.reduceMod, Nat.reduceAdd, Nat.reduceMul, ↓reduceIte]
    | false =>
      rw [eh] at hh
      have hh : f_X4_isHeld p (Int32.ofInt (ay.1 * 5 + ax.1)) s12 = some (Int32.ofInt 0, s12) := hh
      have hl := last (Int32.ofInt (ay.1 * 5 + ax.1)) s12
      have w6 : s12.1 (p + 6) (bM B).toNat = v4 := by rw [p12.1 _ _ (by omega), p11.1 _ _ (by omega), p9.1 _ _ (by omega), f8 _ _ (by omega), p7.1 _ _ (by omega), p6.1 _ _ (by omega), u_eq]
      have w7 : s12.1 (p + 7) (bM B).toNat = v7 := by rw [p12.1 _ _ (by omega), p11.1 _ _ (by omega), p9.1 _ _ (by omega), u_eq]
      have wN : s12.1 (p + 11) (5 + bM B).toNat = Int32.ofInt (b32 a1.1) := by rw [p12.1 _ _ (by omega), p11.1 _ _ (by omega), p9.1 _ _ (by omega), f8 _ _ (by omega), p7.1 _ _ (by omega), p6.1 _ _ (by omega), f5 _ _ (by omega), p4.1 _ _ (by omega), p3.1 _ _ (by omega)]; exact u2
      refine ⟨_, ?_, Fx.tr ⟨fun o k x y => fl (Int32.ofInt (ay.1 * 5 + ax.1)) _ o k (by omega) (by omega), rfl⟩, fun x => absurd x e8, fun _ => ?_⟩
      · rw [← hl]
        simp (disch := omega) only [↓bb hh, n_i8, n_i16, n_0, n_31, n_add, n_sub, n_mul, n_neg, n_div, n_rem, n_le_t, n_le_f, n_lt_t, n_lt_f, n_eq_t, n_eq_f, n_cl, n_gd, n_gdt, n_nz, Int.reduceToNat, Int.reduceAdd, Int.reduceSub, Int.reduceMul, Int.reduceNeg, Int.reduceLT, Int.reduceLE, Int.reduceEq, Int.reduceDiv, Int.reduceMod, Nat.reduceAdd, Nat.reduceMul, ↓reduceIte]
      · rw [hS, if_neg (by rw [eh]; decide)]
        refine RQ.ok ⟨CDf_M hV hD (by omega) (fun a k x1 x2 x3 => ?_) ?_ ?_ ?_ ?_ ?_, CC_fr hC12 (fun o k x => fl (Int32.ofInt (ay.1 * 5 + ax.1)) s12 o k (by omega) (by omega))⟩
        · rw [fl _ s12 a k (by omega) (by omega)]
          exact FA a k (by omega) (by omega)
        · rw [u_eq]
        · rw [fl _ s12 _ _ (by omega) (by omega), w6, u4]
        · rw [fl _ s12 _ _ (by omega) (by omega), w7, u7]
        · rw [u_no (by omega), u_eq]
          show Int32.ofInt (ay.1 * 5 + ax.1) = Int32.ofInt (5 * ay.1 + ax.1)
          rw [show ay.1 * 5 + ax.1 = 5 * ay.1 + ax.1 by omega]
        · rw [fl _ s12 _ _ (by omega) (by omega), wN]
theorem c_fldT (hp : p = 6 ∨ p = 20) {c : Cur} {s : ST} (hV : DV B G N) (hD : CDf B G N p s) (hc : CC T n c s) : ∃ s', f_X8_newField p s = some s' ∧ CBp p s s' ∧ (bF B = 6 → CD 5 (frm T n c) s') ∧ (¬ bF B = 6 → RQ (fldS T n B N (nx T n c)) (fun a => CDf (addF B a.1.2.1 a.1.2.2.1) (gFd G (bF B) a.1.2.2.2) (adN N 2 (bF B) a.1.1) p s' ∧ CC T n a.2 s') (fun k q => CD k q s')) := by
  have hVb := hV.1.2.1
  have hWb := hV.1.1
  have h12 := hD.1.1.2.2.2.2.1
  have hW0 := hD.1.1.1
  have hH0 := hD.1.1.2.1
  obtain ⟨be1, be2⟩ := c_begins hc (v := bF B) (m := 6) (by omega) (by omega) (by omega) (by omega)
  by_cases e8 : bF B = 6
  · obtain ⟨s', q1, q2, q3⟩ := be2 (by omega)
    refine ⟨s', ?_, q3.bp p, fun _ => q2, fun x => absurd e8 x⟩
    simp (disch := omega) only [f_X8_newField, h12, ↓bb q1, g_kk, g_k1, g_n1, g_k2, g_n2, g_k3, g_n3, g_k4, g_n4, g_k5, g_n5, g_k7, g_n7, g_k8, g_n8, g_k9, g_n9, g_k6, g_r3, g_r4, g_r5, g_r6, g_r7, g_r10, g_q0, g_q1, g_q2, p_kk, p_k1, p_n1, p_k2, p_n2, p_k3, p_n3, p_k4, p_n4, p_k5, p_n5, p_k6, p_n6, p_k7, p_n7, p_k8, p_n8, p_k9, p_n9, p_k10, p_n10, p_k11, p_n11, p_k13, p_n13, p_k12, p_r2, p_r4, p_r5, p_r6, p_r7, p_r9, p_r10, p_r11, p_r13, p_r14, p_r15, p_r16, p_h0, n_i8, n_i16, n_0, n_31, n_add, n_sub, n_mul, n_neg, n_div, n_rem, n_le_t, n_le_f, n_lt_t, n_lt_f, n_eq_t, n_eq_f, n_cl, n_gd, n_gdt, n_nz, Int.reduceToNat, Int.reduceAdd, Int.reduceSub, Int.reduceMul, Int.reduceNeg, Int.reduceLT, Int.reduceLE, Int.reduceEq, Int.reduceDiv, Int.reduceMod, Nat.reduceAdd, Nat.reduceMul, ↓reduceIte]
  · obtain ⟨s1, q1, r1, p1⟩ := be1 (by omega)
    have hD1 := CDf_fr hD (s' := s1) (fun o k x y => p1.1 o k (by omega))
    obtain ⟨s2, q2, p2, p2b, r2⟩ := c_newN hp hV r1 hD1.2.2.2.2 (sl := 13 + bF B) (by omega) (by omega)
    obtain ⟨s3, q3, p3, r3⟩ := k_tW (CG_c r2) (k := 12) (by omega)
    have q3 : f_X5_takeWord (Int32.ofInt 12) s2 = some s3 := q3
    obtain ⟨v4, s4, q4, p4, r4⟩ := k_tN r3 (lo := 0) (hi := bW B - 1) (by omega) (by omega) (by omega) (by omega)
    obtain ⟨v5, s5, q5, p5, r5⟩ := k_tN (CG_cu r4) (lo := 0) (hi := bH B - 1) (by omega) (by omega) (by omega) (by omega)
    obtain ⟨s6, q6, p6, r6⟩ := k_tW (CG_cu r5) (k := 14) (by omega)
    have q6 : f_X5_takeWord (Int32.ofInt 14) s5 = some s6 := q6
    have f7 : ∀ o k : Nat, ¬ (o = p + 9 ∧ k = (bF B).toNat) → (uI s6 (p + 9) (bF B).toNat (v5 * Int32.ofInt 5 + v4)).1 o k = s6.1 o k := fun o k x => by (simp only [ua, ja, u_2, u_3, j_1, j_3]; (repeat' split) <;> first | rfl | (exfalso; omega))
    obtain ⟨v8, s8, q8, p8, r8⟩ := k_tN (CG_fr r6 (s' := uI s6 (p + 9) (bF B).toNat (v5 * Int32.ofInt 5 + v4)) (fun o k x => f7 o k (by omega))) (lo := 1) (hi := 999) (by omega) (by omega) (by omega) (by omega)
    have hcl : (Int32.ofInt (bF B)).toNatClampNeg = (bF B).toNat := n_cl (by omega) (by omega)
    have FA3 : ∀ o k : Nat, ¬ o = 3 → ¬ (o = p + 11 ∧ k = (13 + bF B).toNat) → s3.1 o k = s.1 o k := fun o k x y => by rw [p3.1 o k x, p2 o k x y, p1.1 o k x]
    have FA : ∀ o k : Nat, ¬ o = 3 → ¬ (o = p + 11 ∧ k = (13 + bF B).toNat) → ¬ (o = p + 9 ∧ k = (bF B).toNat) → s8.1 o k = s.1 o k := fun o k x y z => by
      rw [p8.1 o k x, f7 o k z, p6.1 o k x, p5.1 o k x, p4.1 o k x]; exact FA3 o k x y
    have FL : s8.2 = s.2 := by
      rw [p8.2]
      show s6.2 = s.2
      rw [p6.2, p5.2, p4.2, p3.2, p2b, p1.2]
    have hW3 : s3.1 p 0 = Int32.ofInt (bW B) := (FA3 p 0 (by omega) (by omega)).trans hW0
    have hH4 : s4.1 p 1 = Int32.ofInt (bH B) := (p4.1 p 1 (by omega)).trans ((FA3 p 1 (by omega) (by omega)).trans hH0)
    have fl : ∀ (o k : Nat), ¬ (o = p + 10 ∧ k = (bF B).toNat) → ¬ (o = p ∧ k = 12) → (uI (uI s8 (p + 10) (bF B).toNat v8) p 12 (Int32.ofInt (bF B + 1))).1 o k = s8.1 o k := fun o k x z => by (simp only [ua, ja, u_2, u_3, j_1, j_3]; (repeat' split) <;> first | rfl | (exfalso; omega))
    have ef : f_X8_newField p s = some (uI (uI s8 (p + 10) (bF B).toNat v8) p 12 (Int32.ofInt (bF B + 1))) := by
      simp (disch := omega) only [f_X8_newField, h12, ↓bb q1, ↓bb q2, ↓bb q3, hW3, ↓bb q4, hH4, ↓bb q5, ↓bb q6, ↓bb q8, hcl, g_kk, g_k1, g_n1, g_k2, g_n2, g_k3, g_n3, g_k4, g_n4, g_k5, g_n5, g_k7, g_n7, g_k8, g_n8, g_k9, g_n9, g_k6, g_r3, g_r4, g_r5, g_r6, g_r7, g_r10, g_q0, g_q1, g_q2, p_kk, p_k1, p_n1, p_k2, p_n2, p_k3, p_n3, p_k4, p_n4, p_k5, p_n5, p_k6, p_n6, p_k7, p_n7, p_k8, p_n8, p_k9, p_n9, p_k10, p_n10, p_k11, p_n11, p_k13, p_n13, p_k12, p_r2, p_r4, p_r5, p_r6, p_r7, p_r9, p_r10, p_r11, p_r13, p_r14, p_r15, p_r16, p_h0, n_i8, n_i16, n_0, n_31, n_add, n_sub, n_mul, n_neg, n_div, n_rem, n_le_t, n_le_f, n_lt_t, n_lt_f, n_eq_t, n_eq_f, n_cl, n_gd, n_gdt, n_nz, Int.reduceToNat, Int.reduceAdd, Int.reduceSub, Int.reduceMul, Int.reduceNeg, Int.reduceLT, Int.reduceLE, Int.reduceEq, Int.reduceDiv, Int.reduceMod, Nat.reduceAdd, Nat.reduceMul, ↓reduceIte, u_eq, u_no, u_nk, u_ek, u_2, u_3, j_1, j_3, j_eq, j_no, j_nk, ltd, bnd]
    have Fx : CBp p s (uI (uI s8 (p + 10) (bF B).toNat v8) p 12 (Int32.ofInt (bF B + 1))) := ⟨fun o k x y => (fl o k (by omega) (by omega)).trans (FA o k x (by omega) (by omega)), FL⟩
    refine ⟨_, ef, Fx, fun x => absurd x e8, fun _ => ?_⟩
    have bad : ∀ e : Int × Int, CD e.1 e.2 s8 → fldS T n B N (nx T n c) = .error e → RQ (fldS T n B N (nx T n c)) (fun a => CDf (addF B a.1.2.1 a.1.2.2.1) (gFd G (bF B) a.1.2.2.2) (adN N 2 (bF B) a.1.1) p (uI (uI s8 (p + 10) (bF B).toNat v8) p 12 (Int32.ofInt (bF B + 1))) ∧ CC T n a.2 (uI (uI s8 (p + 10) (bF B).toNat v8) p 12 (Int32.ofInt (bF B + 1)))) (fun k q => CD k q (uI (uI s8 (p + 10) (bF B).toNat v8) p 12 (Int32.ofInt (bF B + 1)))) := by
      intro e hB he
      rw [he]
      exact CD_fr hB (fun k => fl 3 k (by omega) (by omega))
    cases e1 : nmS T n (dupD B N) (nx T n c) with
    | error x => exact bad x (by simp only [cu, eb_ok, e1, eb_er] at r8; exact r8.2) (by unfold fldS; rw [e1]; rfl)
    | ok a1 =>
    cases e2 : tkW T n 12 a1.2 with
    | error x => exact bad x (by simp only [cu, eb_ok, e1, e2, eb_er] at r8; exact r8.2) (by unfold fldS; rw [e1, eb_ok, e2]; rfl)
    | ok c2 =>
    simp only [cu, eb_ok, e1, e2] at r2 r4 r5 r8
    cases e3 : plcS T n (bW B) (bH B) c2 with
    | error x =>
      refine bad x ?_ (by unfold fldS; rw [e1, eb_ok, e2, eb_ok, e3]; rfl)
      unfold plcS at e3
      cases ex : numS T n c2 0 (bW B - 1) with
      | error z => rw [ex] at e3 r8; cases e3; exact r8.2
      | ok ax =>
        rw [ex, eb_ok] at e3
        rw [ex] at r8
        cases ey : numS T n ax.2 0 (bH B - 1) with
        | error z =>
          rw [ey] at e3
          simp only [eb_ok, ey, eb_er] at r8
          cases e3
          exact r8.2
        | ok ay => rw [ey] at e3; cases e3
    | ok a3 =>
    have e3' := e3
    unfold plcS at e3'
    obtain ⟨ax, ex, e3'⟩ := eb_v e3'
    obtain ⟨ay, ey, e3'⟩ := eb_v e3'
    have ea3 : a3 = ((ax.1, ay.1, frm T n ax.2), ay.2) := by cases e3'; rfl
    simp only [ex, eb_ok, ey] at r4 r5 r8
    cases e4 : tkW T n 14 ay.2 with
    | error x => exact bad x (by simp only [e4, eb_er] at r8; exact r8.2) (by unfold fldS; rw [e1, eb_ok, e2, eb_ok, e3, eb_ok, ea3, e4]; rfl)
    | ok c4 =>
    cases e5 : numS T n c4 1 999 with
    | error x => exact bad x (by simp only [e4, eb_ok, e5] at r8; exact r8.2) (by unfold fldS; rw [e1, eb_ok, e2, eb_ok, e3, eb_ok, ea3, e4, eb_ok, e5]; rfl)
    | ok a5 =>
    simp only [e4, eb_ok, e5] at r8
    have u2 : s2.1 (p + 11) (13 + bF B).toNat = Int32.ofInt (b32 a1.1) := r2.2
    have u4 : v4 = Int32.ofInt ax.1 := r4.1
    have u5 : v5 = Int32.ofInt ay.1 := r5.1
    have u8 : v8 = Int32.ofInt a5.1 := r8.1
    have hC8 : CC T n a5.2 s8 := r8.2
    have ew : v5 * Int32.ofInt 5 + v4 = Int32.ofInt (5 * ay.1 + ax.1) := by rw [u4, u5, n_mul, n_add, show ay.1 * 5 + ax.1 = 5 * ay.1 + ax.1 by omega]
    have hS : fldS T n B N (nx T n c) = .ok ((a1.1, ax.1, ay.1, a5.1), a5.2) := by unfold fldS; rw [e1, eb_ok, e2, eb_ok, e3, eb_ok, ea3, e4, eb_ok, e5]; rfl
    rw [hS]
    refine RQ.ok ⟨CDf_F hV hD (by omega) (fun a k x1 x2 x3 => ?_) ?_ ?_ ?_ ?_, CC_fr hC8 (fun o k x => fl o k (by omega) (by omega))⟩
    · rw [fl a k (by omega) (by omega)]
      exact FA a k (by omega) (by omega) (by omega)
    · rw [u_eq]
    · rw [fl _ _ (by omega) (by omega), p8.1 _ _ (by omega), u_eq, ew]
    · rw [u_no (by omega), u_eq, u8]
    · rw [fl _ _ (by omega) (by omega), p8.1 _ _ (by omega), f7 _ _ (by omega), p6.1 _ _ (by omega), p5.1 _ _ (by omega), p4.1 _ _ (by omega), p3.1 _ _ (by omega)]
      exact u2
