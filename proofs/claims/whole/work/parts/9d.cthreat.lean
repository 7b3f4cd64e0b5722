/-! L3: crowns in danger, of the class -/
def crF (B : Brd) (G : Gam) (t : Int) (l : List Int) (q : Int) : Bool := l.any (fun c => (outB B G t c && isCr B c) && decide (pl G c = q))
theorem c_thr_L4 {B : Brd} {G : Gam} {o p : Nat} {s : ST} (h : GA B G o p s) {u : Int} (u0 : 0 ≤ u) (u1 : u ≤ 1) (K : Nat → Int32 → Int32 → ST → Option (Int32 × ST)) : ∀ (n F : Nat) (i : Int) (g : Int → Bool), 0 ≤ i → (n : Int) = bM B - i → n < F → f_X3_threatens_L4 K F o (Int32.ofInt u) (bmk g) (Int32.ofInt i) s = K o (Int32.ofInt u) (bmk (fun q => g q || crF B G (1 - u) (upto n i) q)) s := by
  have h0 := h
  obtain ⟨⟨hB, hG⟩, ⟨ho, hp⟩, hP, hPB, hplc, -⟩ := h0
  have hM : bM B ≤ 8 := hB.1.1.2.2.2.2.2.2.2.1
  have c8 : s.1 p 8 = Int32.ofInt (bM B) := hPB.1.2.2.2.1
  intro n
  induction n with
  | zero =>
    intro F i g h0 hn hF
    obtain ⟨F, rfl⟩ : ∃ F', F = F' + 1 := ⟨F - 1, by omega⟩
    have hg : bmk (fun q => g q || crF B G (1 - u) (upto 0 i) q) = bmk g := bmk_congr (fun q _ _ => by show (g q || false) = g q; rw [Bool.or_false])
    rw [hg]
    simp (disch := omega) only [f_X3_threatens_L4, hP, c8, g_kk, g_k1, g_n1, g_k2, g_n2, g_k3, g_n3, g_k4, g_n4, g_k5, g_n5, g_k7, g_n7, g_k8, g_n8, g_k9, g_n9, g_k6, g_r3, g_r4, g_r5, g_r6, g_r7, g_r10, g_q0, g_q1, g_q2, p_kk, p_k1, p_n1, p_k2, p_n2, p_k3, p_n3, p_k4, p_n4, p_k5, p_n5, p_k6, p_n6, p_k7, p_n7, p_k8, p_n8, p_k9, p_n9, p_k10, p_n10, p_k11, p_n11, p_k13, p_n13, p_k12, p_r2, p_r4, p_r5, p_r6, p_r7, p_r9, p_r10, p_r11, p_r13, p_r14, p_r15, p_r16, p_h0, n_i8, n_i16, n_0, n_31, n_add, n_sub, n_mul, n_neg, n_div, n_rem, n_le_t, n_le_f, n_lt_t, n_lt_f, n_eq_t, n_eq_f, n_cl, n_gd, n_gdt, n_nz, Int.reduceToNat, Int.reduceAdd, Int.reduceSub, Int.reduceMul, Int.reduceNeg, Int.reduceLT, Int.reduceLE, Int.reduceEq, Int.reduceDiv, Int.reduceMod, Nat.reduceAdd, Nat.reduceMul, ↓reduceIte, u_eq, u_no, u_nk, u_ek, u_2, u_3, j_1, j_3, j_eq, j_no, j_nk, ltd, bnd]
  | succ n ih =>
    intro F i g h0 hn hF
    obtain ⟨F, rfl⟩ : ∃ F', F = F' + 1 := ⟨F - 1, by omega⟩
    have hi := c_isOut h h0 (show i < bM B by omega) (t := 1 - u) (by omega) (by omega)
    have hcr := c_isCrown hB hp hPB h0 (show i < bM B by omega)
    have cpl := hplc i h0 (by omega)
    have hplb := pl_b hB hG h0 (show i < bM B by omega)
    have hcf : ∀ q, crF B G (1 - u) (upto (n + 1) i) q = (((outB B G (1 - u) i && isCr B i) && decide (pl G i = q)) || crF B G (1 - u) (upto n (i + 1)) q) := fun q => rfl
    cases e : outB B G (1 - u) i with
    | false =>
      rw [e] at hi
      have hg : bmk (fun q => g q || crF B G (1 - u) (upto (n + 1) i) q) = bmk (fun q => g q || crF B G (1 - u) (upto n (i + 1)) q) := bmk_congr (fun q _ _ => by rw [hcf, e, Bool.false_and, Bool.false_and, Bool.false_or])
      rw [hg, ← ih F (i + 1) g (by omega) (by omega) (by omega)]
      rw [f_X3_threatens_L4]
      simp (disch := omega) only [hP, c8, hi, bI_f, g_kk, g_k1, g_n1, g_k2, g_n2, g_k3, g_n3, g_k4, g_n4, g_k5, g_n5, g_k7, g_n7, g_k8, g_n8, g_k9, g_n9, g_k6, g_r3, g_r4, g_r5, g_r6, g_r7, g_r10, g_q0, g_q1, g_q2, p_kk, p_k1, p_n1, p_k2, p_n2, p_k3, p_n3, p_k4, p_n4, p_k5, p_n5, p_k6, p_n6, p_k7, p_n7, p_k8, p_n8, p_k9, p_n9, p_k10, p_n10, p_k11, p_n11, p_k13, p_n13, p_k12, p_r2, p_r4, p_r5, p_r6, p_r7, p_r9, p_r10, p_r11, p_r13, p_r14, p_r15, p_r16, p_h0, n_i8, n_i16, n_0, n_31, n_add, n_sub, n_mul, n_neg, n_div, n_rem, n_le_t, n_le_f, n_lt_t, n_lt_f, n_eq_t, n_eq_f, n_cl, n_gd, n_gdt, n_nz, Int.reduceToNat, Int.reduceAdd, Int.reduceSub, Int.reduceMul, Int.reduceNeg, Int.reduceLT, Int.reduceLE, Int.reduceEq, Int.reduceDiv, Int.reduceMod, Nat.reduceAdd, Nat.reduceMul, ↓reduceIte, u_eq, u_no, u_nk, u_ek, u_2, u_3, j_1, j_3, j_eq, j_no, j_nk, ltd, bnd]
    | true =>
      rw [e] at hi
      cases e2 : isCr B i with
      | false =>
        rw [e2] at hcr
        have hg : bmk (fun q => g q || crF B G (1 - u) (upto (n + 1) i) q) = bmk (fun q => g q || crF B G (1 - u) (upto n (i + 1)) q) := bmk_congr (fun q _ _ => by rw [hcf, e2, Bool.and_false, Bool.false_and, Bool.false_or])
        rw [hg, ← ih F (i + 1) g (by omega) (by omega) (by omega)]
        rw [f_X3_threatens_L4]
        simp (disch := omega) only [hP, c8, hi, hcr, bI_t, bI_f, g_kk, g_k1, g_n1, g_k2, g_n2, g_k3, g_n3, g_k4, g_n4, g_k5, g_n5, g_k7, g_n7, g_k8, g_n8, g_k9, g_n9, g_k6, g_r3, g_r4, g_r5, g_r6, g_r7, g_r10, g_q0, g_q1, g_q2, p_kk, p_k1, p_n1, p_k2, p_n2, p_k3, p_n3, p_k4, p_n4, p_k5, p_n5, p_k6, p_n6, p_k7, p_n7, p_k8, p_n8, p_k9, p_n9, p_k10, p_n10, p_k11, p_n11, p_k13, p_n13, p_k12, p_r2, p_r4, p_r5, p_r6, p_r7, p_r9, p_r10, p_r11, p_r13, p_r14, p_r15, p_r16, p_h0, n_i8, n_i16, n_0, n_31, n_add, n_sub, n_mul, n_neg, n_div, n_rem, n_le_t, n_le_f, n_lt_t, n_lt_f, n_eq_t, n_eq_f, n_cl, n_gd, n_gdt, n_nz, Int.reduceToNat, Int.reduceAdd, Int.reduceSub, Int.reduceMul, Int.reduceNeg, Int.reduceLT, Int.reduceLE, Int.reduceEq, Int.reduceDiv, Int.reduceMod, Nat.reduceAdd, Nat.reduceMul, ↓reduceIte, u_eq, u_no, u_nk, u_ek, u_2, u_3, j_1, j_3, j_eq, j_no, j_nk, ltd, bnd]
      | true =>
        rw [e2] at hcr
        have hnt : ¬ gx G i = -1 := by
          unfold outB tk at e
          rw [Bool.and_eq_true] at e
          intro c
          rw [decide_eq_true c] at e
          cases e.2
        have hsh := shl_q (q := pl G i) (by omega) (by omega)
        have hor : bmk g ||| bmk (fun j => decide (j = pl G i)) = bmk (fun q => g q || decide (q = pl G i)) := bmk_or _ _
        have hg : bmk (fun q => g q || crF B G (1 - u) (upto (n + 1) i) q) = bmk (fun q => (g q || decide (q = pl G i)) || crF B G (1 - u) (upto n (i + 1)) q) := bmk_congr (fun q _ _ => by
          rw [hcf, e, e2, Bool.true_and, Bool.true_and, Bool.or_assoc, decide_eq_decide.mpr (show pl G i = q ↔ q = pl G i from ⟨Eq.symm, Eq.symm⟩)])
        rw [hg, ← ih F (i + 1) (fun q => g q || decide (q = pl G i)) (by omega) (by omega) (by omega)]
        rw [f_X3_threatens_L4]
        simp (disch := omega) only [hP, c8, hi, hcr, cpl, hsh, hor, bI_t, g_kk, g_k1, g_n1, g_k2, g_n2, g_k3, g_n3, g_k4, g_n4, g_k5, g_n5, g_k7, g_n7, g_k8, g_n8, g_k9, g_n9, g_k6, g_r3, g_r4, g_r5, g_r6, g_r7, g_r10, g_q0, g_q1, g_q2, p_kk, p_k1, p_n1, p_k2, p_n2, p_k3, p_n3, p_k4, p_n4, p_k5, p_n5, p_k6, p_n6, p_k7, p_n7, p_k8, p_n8, p_k9, p_n9, p_k10, p_n10, p_k11, p_n11, p_k13, p_n13, p_k12, p_r2, p_r4, p_r5, p_r6, p_r7, p_r9, p_r10, p_r11, p_r13, p_r14, p_r15, p_r16, p_h0, n_i8, n_i16, n_0, n_31, n_add, n_sub, n_mul, n_neg, n_div, n_rem, n_le_t, n_le_f, n_lt_t, n_lt_f, n_eq_t, n_eq_f, n_cl, n_gd, n_gdt, n_nz, Int.reduceToNat, Int.reduceAdd, Int.reduceSub, Int.reduceMul, Int.reduceNeg, Int.reduceLT, Int.reduceLE, Int.reduceEq, Int.reduceDiv, Int.reduceMod, Nat.reduceAdd, Nat.reduceMul, ↓reduceIte, u_eq, u_no, u_nk, u_ek, u_2, u_3, j_1, j_3, j_eq, j_no, j_nk, ltd, bnd]
def hitF (B : Brd) (G : Gam) (u : Int) (g : Int → Bool) (m : Int) : Bool := outB B G u m && pls.any (fun q => gQ B G m q && g q)
theorem c_thr_L56 {B : Brd} {G : Gam} {o p : Nat} {s : ST} (h : GA B G o p s) {u : Int} (u0 : 0 ≤ u) (u1 : u ≤ 1) {g : Int → Bool} (hg0 : ¬ bmk g = Int32.ofInt 0) : ∀ (n F : Nat) (i : Int), 0 ≤ i → (n : Int) = bM B - i → n < F → f_X3_threatens_L56 F o (Int32.ofInt u) (bmk g) (Int32.ofInt i) s = some (bI ((upto n i).any (hitF B G u g)), s) := by
  have h0 := h
  obtain ⟨⟨hB, hG⟩, ⟨ho, hp⟩, hP, hPB, -⟩ := h0
  have hM : bM B ≤ 8 := hB.1.1.2.2.2.2.2.2.2.1
  have c8 : s.1 p 8 = Int32.ofInt (bM B) := hPB.1.2.2.2.1
  intro n
  induction n with
  | zero =>
    intro F i h0 hn hF
    obtain ⟨F, rfl⟩ : ∃ F', F = F' + 1 := ⟨F - 1, by omega⟩
    simp (disch := omega) only [f_X3_threatens_L56, hP, c8, if_neg hg0, upto, List.any_nil, bI_f, g_kk, g_k1, g_n1, g_k2, g_n2, g_k3, g_n3, g_k4, g_n4, g_k5, g_n5, g_k7, g_n7, g_k8, g_n8, g_k9, g_n9, g_k6, g_r3, g_r4, g_r5, g_r6, g_r7, g_r10, g_q0, g_q1, g_q2, p_kk, p_k1, p_n1, p_k2, p_n2, p_k3, p_n3, p_k4, p_n4, p_k5, p_n5, p_k6, p_n6, p_k7, p_n7, p_k8, p_n8, p_k9, p_n9, p_k10, p_n10, p_k11, p_n11, p_k13, p_n13, p_k12, p_r2, p_r4, p_r5, p_r6, p_r7, p_r9, p_r10, p_r11, p_r13, p_r14, p_r15, p_r16, p_h0, n_i8, n_i16, n_0, n_31, n_add, n_sub, n_mul, n_neg, n_div, n_rem, n_le_t, n_le_f, n_lt_t, n_lt_f, n_eq_t, n_eq_f, n_cl, n_gd, n_gdt, n_nz, Int.reduceToNat, Int.reduceAdd, Int.reduceSub, Int.reduceMul, Int.reduceNeg, Int.reduceLT, Int.reduceLE, Int.reduceEq, Int.reduceDiv, Int.reduceMod, Nat.reduceAdd, Nat.reduceMul, ↓reduceIte, u_eq, u_no, u_nk, u_ek, u_2, u_3, j_1, j_3, j_eq, j_no, j_nk, ltd, bnd]
  | succ n ih =>
    intro F i h0 hn hF
    obtain ⟨F, rfl⟩ : ∃ F', F = F' + 1 := ⟨F - 1, by omega⟩
    have hi := c_isOut h h0 (show i < bM B by omega) u0 u1
    have hg := c_goals h h0 (show i < bM B by omega)
    have ih := ih F (i + 1) (by omega) (by omega) (by omega)
    simp only [upto, List.any_cons]
    cases e : outB B G u i with
    | false =>
      rw [e] at hi
      have e' : hitF B G u g i = false := by unfold hitF; rw [e, Bool.false_and]
      rw [e', Bool.false_or, ← ih]
      rw [f_X3_threatens_L56]
      simp (disch := omega) only [hP, c8, hi, if_neg hg0, bI_f, g_kk, g_k1, g_n1, g_k2, g_n2, g_k3, g_n3, g_k4, g_n4, g_k5, g_n5, g_k7, g_n7, g_k8, g_n8, g_k9, g_n9, g_k6, g_r3, g_r4, g_r5, g_r6, g_r7, g_r10, g_q0, g_q1, g_q2, p_kk, p_k1, p_n1, p_k2, p_n2, p_k3, p_n3, p_k4, p_n4, p_k5, p_n5, p_k6, p_n6, p_k7, p_n7, p_k8, p_n8, p_k9, p_n9, p_k10, p_n10, p_k11, p_n11, p_k13, p_n13, p_k12, p_r2, p_r4, p_r5, p_r6, p_r7, p_r9, p_r10, p_r11, p_r13, p_r14, p_r15, p_r16, p_h0, n_i8, n_i16, n_0, n_31, n_add, n_sub, n_mul, n_neg, n_div, n_rem, n_le_t, n_le_f, n_lt_t, n_lt_f, n_eq_t, n_eq_f, n_cl, n_gd, n_gdt, n_nz, Int.reduceToNat, Int.reduceAdd, Int.reduceSub, Int.reduceMul, Int.reduceNeg, Int.reduceLT, Int.reduceLE, Int.reduceEq, Int.reduceDiv, Int.reduceMod, Nat.reduceAdd, Nat.reduceMul, ↓reduceIte, u_eq, u_no, u_nk, u_ek, u_2, u_3, j_1, j_3, j_eq, j_no, j_nk, ltd, bnd]
    | true =>
      rw [e] at hi
      have hand := bmk_and (gQ B G i) g
      have hz := bmk_0 (f := fun q => gQ B G i q && g q)
      by_cases e2 : bmk (fun q => gQ B G i q && g q) = Int32.ofInt 0
      · have hf := hz.mp e2
        have e' : hitF B G u g i = false := by
          unfold hitF
          rw [e, Bool.true_and, List.any_eq_false]
          intro q hq
          unfold pls at hq
          rw [mem_upto] at hq
          rw [hf q hq.1 (by omega)]
          decide
        rw [e', Bool.false_or, ← ih]
        rw [f_X3_threatens_L56]
        simp (disch := omega) only [hP, c8, hi, hg, hand, e2, if_neg hg0, bI_t, g_kk, g_k1, g_n1, g_k2, g_n2, g_k3, g_n3, g_k4, g_n4, g_k5, g_n5, g_k7, g_n7, g_k8, g_n8, g_k9, g_n9, g_k6, g_r3, g_r4, g_r5, g_r6, g_r7, g_r10, g_q0, g_q1, g_q2, p_kk, p_k1, p_n1, p_k2, p_n2, p_k3, p_n3, p_k4, p_n4, p_k5, p_n5, p_k6, p_n6, p_k7, p_n7, p_k8, p_n8, p_k9, p_n9, p_k10, p_n10, p_k11, p_n11, p_k13, p_n13, p_k12, p_r2, p_r4, p_r5, p_r6, p_r7, p_r9, p_r10, p_r11, p_r13, p_r14, p_r15, p_r16, p_h0, n_i8, n_i16, n_0, n_31, n_add, n_sub, n_mul, n_neg, n_div, n_rem, n_le_t, n_le_f, n_lt_t, n_lt_f, n_eq_t, n_eq_f, n_cl, n_gd, n_gdt, n_nz, Int.reduceToNat, Int.reduceAdd, Int.reduceSub, Int.reduceMul, Int.reduceNeg, Int.reduceLT, Int.reduceLE, Int.reduceEq, Int.reduceDiv, Int.reduceMod, Nat.reduceAdd, Nat.reduceMul, ↓reduceIte, u_eq, u_no, u_nk, u_ek, u_2, u_3, j_1, j_3, j_eq, j_no, j_nk, ltd, bnd]
      · have e' : hitF B G u g i = true := by
          cases k : hitF B G u g i with
          | true => rfl
          | false =>
            exfalso
            unfold hitF at k
            rw [e, Bool.true_and, List.any_eq_false] at k
            refine e2 (hz.mpr (fun q q0 q1 => ?_))
            have := k q (by unfold pls; exact mem_upto.mpr (by omega))
            cases kk : gQ B G i q && g q with
            | true => exact absurd kk this
            | false => rfl
        rw [e', Bool.true_or]
        rw [f_X3_threatens_L56]
        simp (disch := omega) only [hP, c8, hi, hg, hand, if_neg e2, if_neg hg0, bI_t, g_kk, g_k1, g_n1, g_k2, g_n2, g_k3, g_n3, g_k4, g_n4, g_k5, g_n5, g_k7, g_n7, g_k8, g_n8, g_k9, g_n9, g_k6, g_r3, g_r4, g_r5, g_r6, g_r7, g_r10, g_q0, g_q1, g_q2, p_kk, p_k1, p_n1, p_k2, p_n2, p_k3, p_n3, p_k4, p_n4, p_k5, p_n5, p_k6, p_n6, p_k7, p_n7, p_k8, p_n8, p_k9, p_n9, p_k10, p_n10, p_k11, p_n11, p_k13, p_n13, p_k12, p_r2, p_r4, p_r5, p_r6, p_r7, p_r9, p_r10, p_r11, p_r13, p_r14, p_r15, p_r16, p_h0, n_i8, n_i16, n_0, n_31, n_add, n_sub, n_mul, n_neg, n_div, n_rem, n_le_t, n_le_f, n_lt_t, n_lt_f, n_eq_t, n_eq_f, n_cl, n_gd, n_gdt, n_nz, Int.reduceToNat, Int.reduceAdd, Int.reduceSub, Int.reduceMul, Int.reduceNeg, Int.reduceLT, Int.reduceLE, Int.reduceEq, Int.reduceDiv, Int.reduceMod, Nat.reduceAdd, Nat.reduceMul, ↓reduceIte, u_eq, u_no, u_nk, u_ek, u_2, u_3, j_1, j_3, j_eq, j_no, j_nk, ltd, bnd]
theorem thr_eq {B : Brd} {G : Gam} (hB : Bv B) (hG : Gv B G) {u : Int} (u0 : 0 ≤ u) (u1 : u ≤ 1) : (mens B).any (hitF B G u (crF B G (1 - u) (mens B))) = chk B G (1 - u) := by
  have hM0 : 0 ≤ bM B := hB.1.1.2.2.2.2.2.2.1
  have hW : bW B ≤ 5 := hB.1.1.2.1
  have hH : bH B ≤ 5 := hB.1.1.2.2.2.1
  rw [Bool.eq_iff_iff]
  unfold chk
  rw [List.any_eq_true, List.any_eq_true]
  constructor
  · intro ⟨m, hm, h⟩
    rw [mem_mens hM0] at hm
    unfold hitF at h
    rw [Bool.and_eq_true, List.any_eq_true] at h
    obtain ⟨h1, q, hq, h2⟩ := h
    rw [Bool.and_eq_true] at h2
    unfold crF at h2
    rw [List.any_eq_true] at h2
    obtain ⟨h2, c, hc, h3⟩ := h2
    have hc' := hc
    rw [mem_mens hM0] at hc'
    rw [Bool.and_eq_true, Bool.and_eq_true] at h3
    obtain ⟨⟨h3, h4⟩, h5⟩ := h3
    have h5 := of_decide_eq_true h5
    unfold outB at h1 h3
    rw [Bool.and_eq_true] at h1 h3
    have a1 := of_decide_eq_true h1.1
    have a2 := of_decide_eq_true h3.1
    have hnt : ¬ gx G c = -1 := by
      intro k
      have := h3.2
      unfold tk at this
      rw [decide_eq_true k] at this
      cases this
    have hpl := pl_b hB hG hc'.1 hc'.2
    refine ⟨c, hc, ?_⟩
    unfold thr
    rw [h4, decide_eq_true a2, h3.2, Bool.true_and, Bool.true_and, Bool.true_and, List.any_eq_true]
    refine ⟨m, (mem_mens hM0).mpr hm, ?_⟩
    rw [decide_eq_false (show ¬ sd B m = 1 - u by omega), Bool.not_false, Bool.true_and]
    unfold gQ at h2
    rw [Bool.and_eq_true] at h2
    have := h2.2
    rw [← h5] at this
    rcases hpl with hpl | hpl
    · exact absurd hpl.1 hnt
    · rw [hpl.2.2.2.2.2.2.2.1, hpl.2.2.2.2.2.2.2.2] at this
      exact this
  · intro ⟨c, hc, h⟩
    have hc' := hc
    rw [mem_mens hM0] at hc'
    unfold thr at h
    rw [Bool.and_eq_true, Bool.and_eq_true, Bool.and_eq_true, List.any_eq_true] at h
    obtain ⟨h1, h2, h3, m, hm, h4⟩ := h
    have hm' := hm
    rw [mem_mens hM0] at hm'
    rw [Bool.and_eq_true] at h4
    have a2 := of_decide_eq_true h2
    have hsm := hB.2.2.1 m hm'.1 hm'.2
    have a1 : sd B m = u := by
      have : ¬ sd B m = 1 - u := by
        intro k
        have := h4.1
        rw [decide_eq_true k] at this
        cases this
      omega
    have hnt : ¬ gx G c = -1 := by
      intro k
      have := h3
      unfold tk at this
      rw [decide_eq_true k] at this
      cases this
    have hntm := (go_spec h4.2).1
    have hpl := pl_b hB hG hc'.1 hc'.2
    rcases hpl with hpl | hpl
    · exact absurd hpl.1 hnt
    refine ⟨m, hm, ?_⟩
    unfold hitF outB
    rw [decide_eq_true a1, show tk G m = false from decide_eq_false hntm, Bool.not_false, Bool.true_and, Bool.true_and, List.any_eq_true]
    refine ⟨pl G c, by unfold pls; exact mem_upto.mpr (by omega), ?_⟩
    rw [Bool.and_eq_true]
    constructor
    · unfold gQ
      rw [hpl.2.2.2.2.2.2.2.1, hpl.2.2.2.2.2.2.2.2, h4.2, onBd_i.mpr (by omega)]
      rfl
    · unfold crF
      rw [List.any_eq_true]
      refine ⟨c, hc, ?_⟩
      unfold outB
      rw [decide_eq_true a2, h3, h1, decide_eq_true rfl]
      rfl
theorem c_threat {B : Brd} {G : Gam} {o p : Nat} {s : ST} (h : GA B G o p s) {u : Int} (u0 : 0 ≤ u) (u1 : u ≤ 1) : f_X3_threatens o (Int32.ofInt u) s = some (bI (chk B G (1 - u)), s) := by
  have hM0 : 0 ≤ bM B := h.1.1.1.1.2.2.2.2.2.2.1
  have hM : bM B ≤ 8 := h.1.1.1.1.2.2.2.2.2.2.2.1
  have h1 := c_thr_L4 h u0 u1 f_X3_threatens_j54 (bM B).toNat fuel 0 (fun _ => false) (by omega) (by omega) (by unfold fuel; omega)
  rw [bmk_no] at h1
  have hg : bmk (fun q => false || crF B G (1 - u) (upto (bM B).toNat 0) q) = bmk (crF B G (1 - u) (mens B)) := bmk_congr (fun q _ _ => by rw [Bool.false_or]; rfl)
  rw [hg] at h1
  have h1 : f_X3_threatens o (Int32.ofInt u) s = f_X3_threatens_j54 o (Int32.ofInt u) (bmk (crF B G (1 - u) (mens B))) s := h1
  rw [h1, ← thr_eq h.1.1 h.1.2 u0 u1]
  by_cases e : bmk (crF B G (1 - u) (mens B)) = Int32.ofInt 0
  · have hz := bmk_0.mp e
    have hf : (mens B).any (hitF B G u (crF B G (1 - u) (mens B))) = false := by
      rw [List.any_eq_false]
      intro m _
      unfold hitF
      have : pls.any (fun q => gQ B G m q && crF B G (1 - u) (mens B) q) = false := by
        rw [List.any_eq_false]
        intro q hq
        unfold pls at hq
        rw [mem_upto] at hq
        rw [hz q hq.1 (by omega), Bool.and_false]
        decide
      rw [this, Bool.and_false]
      decide
    rw [hf, e]
    have : ∀ F : Nat, f_X3_threatens_L56 (F + 1) o (Int32.ofInt u) (Int32.ofInt 0) (Int32.ofInt 0) s = some (bI false, s) := fun F => by
      simp (disch := omega) only [f_X3_threatens_L56, bI_f, n_i8, n_i16, n_0, n_31, n_add, n_sub, n_mul, n_neg, n_div, n_rem, n_le_t, n_le_f, n_lt_t, n_lt_f, n_eq_t, n_eq_f, n_cl, n_gd, n_gdt, n_nz, Int.reduceToNat, Int.reduceAdd, Int.reduceSub, Int.reduceMul, Int.reduceNeg, Int.reduceLT, Int.reduceLE, Int.reduceEq, Int.reduceDiv, Int.reduceMod, Nat.reduceAdd, Nat.reduceMul, ↓reduceIte]
    exact this 99999
  · exact c_thr_L56 h u0 u1 e (bM B).toNat fuel 0 (by omega) (by omega) (by unfold fuel; omega)
