/-! L3: looks of the class: loops over moves -/
theorem fold_f1 {α : Type} (c : Int → Bool) (g : α → Int → α) : ∀ (l : List Int) (p : α), l.foldl (fun p k => if c k = true then g p k else p) p = (l.filter c).foldl g p
  | [], _ => rfl
  | k :: l, p => by
    rw [List.foldl_cons, List.filter_cons]
    cases e : c k with
    | true => rw [if_pos rfl, if_pos rfl, List.foldl_cons]; exact fold_f1 c g l _
    | false => rw [if_neg (by decide), if_neg (by decide)]; exact fold_f1 c g l p
theorem fold_mvl {α : Type} (B : Brd) (G : Gam) (h : α → Int → Int → α) : ∀ (l : List Int) (p : α), l.foldl (fun p m => (sqs B).foldl (fun p k => if cond B G m k = true then h p m k else p) p) p = (l.flatMap (mv1 B G)).foldl (fun p x => h p x.1 x.2) p
  | [], _ => rfl
  | m :: l, p => by
    rw [List.foldl_cons, List.flatMap_cons, List.foldl_append, fold_mvl B G h l]
    congr 1
    rw [fold_f1 (cond B G m) (fun p k => h p m k)]
    unfold mv1
    rw [List.foldl_map]
theorem foldl_congr_m {α β : Type} {f g : α → β → α} : ∀ {l : List β} {p : α}, (∀ p b, b ∈ l → f p b = g p b) → l.foldl f p = l.foldl g p
  | [], _, _ => rfl
  | b :: l, p, h => by
    rw [List.foldl_cons, List.foldl_cons, h p b List.mem_cons_self]
    exact foldl_congr_m (fun q c hc => h q c (List.mem_cons_of_mem _ hc))
theorem cml_fold {α : Type} {B : Brd} (hB : Bv B) {G : Gam} (h : α → Int → Int → α) (h' : α → Int → Int → α) (hh : ∀ p m k, 0 ≤ m → m < bM B → 0 ≤ k → k < bW B * bH B → sd B m = gs G → goK B G m k = true → h p m (p5 B k) = h' p m k) (p : α) : (cml B G (mens B)).foldl (fun p x => h p x.1 x.2) p = (mvl B G).foldl (fun p x => h' p x.1 x.2) p := by
  rw [cml_mv hB, List.foldl_map]
  refine foldl_congr_m (fun q x hx => ?_)
  obtain ⟨a, b, c, d, e, f⟩ := mvl_mem hB.1.1.2.2.2.2.2.2.1 hx
  exact hh q x.1 x.2 a b c d e f
theorem mvG_p5 {B : Brd} (hB : Bv B) {G : Gam} {m k : Int} (k0 : 0 ≤ k) (k1 : k < bW B * bH B) : mvG B G m (p5 B k % 5) (p5 B k / 5) = mvK B G m k := by
  have := p5_x hB k0 k1
  rw [this.1, this.2.1]
  rfl
theorem gQ_okM {B : Brd} {G : Gam} {m q : Int} (m0 : 0 ≤ m) (m1 : m < bM B) (h : gQ B G m q = true) : okM B G m (q % 5) (q / 5) := by
  unfold gQ at h
  rw [Bool.and_eq_true] at h
  have := onBd_i.mp h.1
  exact ⟨⟨m0, m1⟩, this.1, this.2, h.2⟩
theorem c_out_L79 {B : Brd} {G : Gam} {o p : Nat} (ho : o = 36 ∨ o = 46) {rc : Nat → Int32 → Int32 → Int32 → ST → Option (Int32 × ST)} {t d m : Int} {g : Int → Bool} {v : Int → Int} (hv : ∀ q, -1000 ≤ v q ∧ v q ≤ 1000) (hrc : ∀ (q : Int) (s : ST), 0 ≤ q → q < 25 → g q = true → GA B G o p s → ∃ s', rc o (Int32.ofInt m) (Int32.ofInt q) (Int32.ofInt d) s = some (Int32.ofInt (v q), s') ∧ GA B G o p s' ∧ Fm o s s') (K : Nat → Int32 → Int32 → Int32 → Int32 → Int32 → ST → Option (Int32 × ST)) : ∀ (n F : Nat) (i : Int) (r : Int × Bool) (s : ST), GA B G o p s → inb r → 0 ≤ i → (n : Int) = 25 - i → n < F → ∃ s', GA B G o p s' ∧ Fm o s s' ∧ inb (((upto n i).filter g).foldl (fun r q => bst r (v q)) r) ∧ f_X3_outlook_L79 rc K F o (Int32.ofInt t) (Int32.ofInt d) (bI r.2) (Int32.ofInt r.1) (Int32.ofInt m) (bmk g) (Int32.ofInt i) s = K o (Int32.ofInt t) (Int32.ofInt d) (bI (((upto n i).filter g).foldl (fun r q => bst r (v q)) r).2) (Int32.ofInt (((upto n i).filter g).foldl (fun r q => bst r (v q)) r).1) (Int32.ofInt (m + 1)) s' := by
  intro n
  by_cases hz : bmk g = Int32.ofInt 0
  · intro F i r s hA hr h0 hn hF
    obtain ⟨F, rfl⟩ : ∃ F', F = F' + 1 := ⟨F - 1, by omega⟩
    have hg := bmk_0.mp hz
    have hnil : (upto n i).filter g = [] := List.filter_eq_nil_iff.mpr (fun q hq => by
      rw [mem_upto] at hq
      rw [hg q (by omega) (by omega)]; decide)
    rw [hnil]
    refine ⟨s, hA, Fm.rf o s, hr, ?_⟩
    simp (disch := omega) only [f_X3_outlook_L79, hz, List.foldl_nil, n_i8, n_i16, n_0, n_31, n_add, n_sub, n_mul, n_neg, n_div, n_rem, n_le_t, n_le_f, n_lt_t, n_lt_f, n_eq_t, n_eq_f, n_cl, n_gd, n_gdt, n_nz, Int.reduceToNat, Int.reduceAdd, Int.reduceSub, Int.reduceMul, Int.reduceNeg, Int.reduceLT, Int.reduceLE, Int.reduceEq, Int.reduceDiv, Int.reduceMod, Nat.reduceAdd, Nat.reduceMul, ↓reduceIte]
  · induction n with
    | zero =>
      intro F i r s hA hr h0 hn hF
      obtain ⟨F, rfl⟩ : ∃ F', F = F' + 1 := ⟨F - 1, by omega⟩
      refine ⟨s, hA, Fm.rf o s, hr, ?_⟩
      simp (disch := omega) only [f_X3_outlook_L79, if_neg hz, upto, List.filter_nil, List.foldl_nil, n_i8, n_i16, n_0, n_31, n_add, n_sub, n_mul, n_neg, n_div, n_rem, n_le_t, n_le_f, n_lt_t, n_lt_f, n_eq_t, n_eq_f, n_cl, n_gd, n_gdt, n_nz, Int.reduceToNat, Int.reduceAdd, Int.reduceSub, Int.reduceMul, Int.reduceNeg, Int.reduceLT, Int.reduceLE, Int.reduceEq, Int.reduceDiv, Int.reduceMod, Nat.reduceAdd, Nat.reduceMul, ↓reduceIte]
    | succ n ih =>
      intro F i r s hA hr h0 hn hF
      obtain ⟨F, rfl⟩ : ∃ F', F = F' + 1 := ⟨F - 1, by omega⟩
      have hb := bit_q g (q := i) h0 (by omega)
      simp only [upto]
      rw [List.filter_cons]
      cases e : g i with
      | false =>
        rw [e] at hb
        rw [if_neg (by decide)]
        obtain ⟨s', q1, q2, q3, q4⟩ := ih F (i + 1) r s hA hr (by omega) (by omega) (by omega)
        refine ⟨s', q1, q2, q3, ?_⟩
        rw [← q4]
        rw [f_X3_outlook_L79]
        simp (disch := omega) only [if_neg hz, hb, bI_f, n_i8, n_i16, n_0, n_31, n_add, n_sub, n_mul, n_neg, n_div, n_rem, n_le_t, n_le_f, n_lt_t, n_lt_f, n_eq_t, n_eq_f, n_cl, n_gd, n_gdt, n_nz, Int.reduceToNat, Int.reduceAdd, Int.reduceSub, Int.reduceMul, Int.reduceNeg, Int.reduceLT, Int.reduceLE, Int.reduceEq, Int.reduceDiv, Int.reduceMod, Nat.reduceAdd, Nat.reduceMul, ↓reduceIte]
      | true =>
        rw [e] at hb
        rw [if_pos rfl, List.foldl_cons]
        obtain ⟨s1, w1, w2, w3⟩ := hrc i s h0 (by omega) e hA
        have hvi := hv i
        have hst : bst r (v i) = if r.2 = true ∧ v i ≤ r.1 then r else (v i, true) := rfl
        unfold inb at hr
        generalize v i = z at *
        have hr1 : inb (bst r z) := by unfold inb; rw [hst]; split <;> (first | exact hr | exact ⟨by show -1000 ≤ z; omega, by show z ≤ 1000; omega⟩)
        obtain ⟨s', q1, q2, q3, q4⟩ := ih F (i + 1) (bst r z) s1 w2 hr1 (by omega) (by omega) (by omega)
        refine ⟨s', q1, w3.tr q2, q3, ?_⟩
        rw [← q4]
        rw [f_X3_outlook_L79]
        cases ea : r.2 with
        | false =>
          rw [if_neg (fun c => by rw [ea] at c; cases c.1)] at hst
          rw [hst]
          simp (disch := omega) only [f_X3_outlook_j128, if_neg hz, hb, w1, bI_t, bI_f, g_kk, g_k1, g_n1, g_k2, g_n2, g_k3, g_n3, g_k4, g_n4, g_k5, g_n5, g_k7, g_n7, g_k8, g_n8, g_k9, g_n9, g_k6, g_r3, g_r4, g_r5, g_r6, g_r7, g_r10, g_q0, g_q1, g_q2, p_kk, p_k1, p_n1, p_k2, p_n2, p_k3, p_n3, p_k4, p_n4, p_k5, p_n5, p_k6, p_n6, p_k7, p_n7, p_k8, p_n8, p_k9, p_n9, p_k10, p_n10, p_k11, p_n11, p_k13, p_n13, p_k12, p_r2, p_r4, p_r5, p_r6, p_r7, p_r9, p_r10, p_r11, p_r13, p_r14, p_r15, p_r16, p_h0, n_i8, n_i16, n_0, n_31, n_add, n_sub, n_mul, n_neg, n_div, n_rem, n_le_t, n_le_f, n_lt_t, n_lt_f, n_eq_t, n_eq_f, n_cl, n_gd, n_gdt, n_nz, Int.reduceToNat, Int.reduceAdd, Int.reduceSub, Int.reduceMul, Int.reduceNeg, Int.reduceLT, Int.reduceLE, Int.reduceEq, Int.reduceDiv, Int.reduceMod, Nat.reduceAdd, Nat.reduceMul, ↓reduceIte, u_eq, u_no, u_nk, u_ek, u_2, u_3, j_1, j_3, j_eq, j_no, j_nk, ltd, bnd]
        | true =>
          by_cases e2 : z ≤ r.1
          · rw [if_pos ⟨ea, e2⟩] at hst
            rw [hst, ea]
            simp (disch := omega) only [f_X3_outlook_j128, if_neg hz, hb, w1, bI_t, bI_f, g_kk, g_k1, g_n1, g_k2, g_n2, g_k3, g_n3, g_k4, g_n4, g_k5, g_n5, g_k7, g_n7, g_k8, g_n8, g_k9, g_n9, g_k6, g_r3, g_r4, g_r5, g_r6, g_r7, g_r10, g_q0, g_q1, g_q2, p_kk, p_k1, p_n1, p_k2, p_n2, p_k3, p_n3, p_k4, p_n4, p_k5, p_n5, p_k6, p_n6, p_k7, p_n7, p_k8, p_n8, p_k9, p_n9, p_k10, p_n10, p_k11, p_n11, p_k13, p_n13, p_k12, p_r2, p_r4, p_r5, p_r6, p_r7, p_r9, p_r10, p_r11, p_r13, p_r14, p_r15, p_r16, p_h0, n_i8, n_i16, n_0, n_31, n_add, n_sub, n_mul, n_neg, n_div, n_rem, n_le_t, n_le_f, n_lt_t, n_lt_f, n_eq_t, n_eq_f, n_cl, n_gd, n_gdt, n_nz, Int.reduceToNat, Int.reduceAdd, Int.reduceSub, Int.reduceMul, Int.reduceNeg, Int.reduceLT, Int.reduceLE, Int.reduceEq, Int.reduceDiv, Int.reduceMod, Nat.reduceAdd, Nat.reduceMul, ↓reduceIte, u_eq, u_no, u_nk, u_ek, u_2, u_3, j_1, j_3, j_eq, j_no, j_nk, ltd, bnd]
          · rw [if_neg (fun c => e2 c.2)] at hst
            rw [hst]
            simp (disch := omega) only [f_X3_outlook_j128, if_neg hz, hb, w1, bI_t, bI_f, g_kk, g_k1, g_n1, g_k2, g_n2, g_k3, g_n3, g_k4, g_n4, g_k5, g_n5, g_k7, g_n7, g_k8, g_n8, g_k9, g_n9, g_k6, g_r3, g_r4, g_r5, g_r6, g_r7, g_r10, g_q0, g_q1, g_q2, p_kk, p_k1, p_n1, p_k2, p_n2, p_k3, p_n3, p_k4, p_n4, p_k5, p_n5, p_k6, p_n6, p_k7, p_n7, p_k8, p_n8, p_k9, p_n9, p_k10, p_n10, p_k11, p_n11, p_k13, p_n13, p_k12, p_r2, p_r4, p_r5, p_r6, p_r7, p_r9, p_r10, p_r11, p_r13, p_r14, p_r15, p_r16, p_h0, n_i8, n_i16, n_0, n_31, n_add, n_sub, n_mul, n_neg, n_div, n_rem, n_le_t, n_le_f, n_lt_t, n_lt_f, n_eq_t, n_eq_f, n_cl, n_gd, n_gdt, n_nz, Int.reduceToNat, Int.reduceAdd, Int.reduceSub, Int.reduceMul, Int.reduceNeg, Int.reduceLT, Int.reduceLE, Int.reduceEq, Int.reduceDiv, Int.reduceMod, Nat.reduceAdd, Nat.reduceMul, ↓reduceIte, u_eq, u_no, u_nk, u_ek, u_2, u_3, j_1, j_3, j_eq, j_no, j_nk, ltd, bnd]
theorem c_out_L42 {B : Brd} {G : Gam} {o p : Nat} {rc : Nat → Int32 → Int32 → Int32 → ST → Option (Int32 × ST)} {d : Int} {V : Int → Int → Int} (hv : ∀ m q, -1000 ≤ V m q ∧ V m q ≤ 1000) (hrc : ∀ (m q : Int) (s : ST), 0 ≤ m → m < bM B → 0 ≤ q → q < 25 → outB B G (gs G) m = true → gQ B G m q = true → GA B G o p s → ∃ s', rc o (Int32.ofInt m) (Int32.ofInt q) (Int32.ofInt d) s = some (Int32.ofInt (V m q), s') ∧ GA B G o p s' ∧ Fm o s s') (K : Nat → Int32 → Int32 → Int32 → ST → Option (Int32 × ST)) : ∀ (n F : Nat) (i : Int) (r : Int × Bool) (s : ST), GA B G o p s → inb r → 0 ≤ i → (n : Int) = bM B - i → n < F → ∃ s', GA B G o p s' ∧ Fm o s s' ∧ inb ((cml B G (upto n i)).foldl (fun r x => bst r (V x.1 x.2)) r) ∧ f_X3_outlook_L42 rc K F o (Int32.ofInt (gs G)) (Int32.ofInt d) (bI r.2) (Int32.ofInt r.1) (Int32.ofInt i) s = K o (Int32.ofInt (gs G)) (bI ((cml B G (upto n i)).foldl (fun r x => bst r (V x.1 x.2)) r).2) (Int32.ofInt ((cml B G (upto n i)).foldl (fun r x => bst r (V x.1 x.2)) r).1) s' := by
  intro n
  induction n with
  | zero =>
    intro F i r s hA hr h0 hn hF
    obtain ⟨F, rfl⟩ : ∃ F', F = F' + 1 := ⟨F - 1, by omega⟩
    have hA' := hA
    obtain ⟨⟨hB, hG⟩, ⟨ho, hp⟩, hP, hPB, -⟩ := hA'
    have c8 : s.1 p 8 = Int32.ofInt (bM B) := hPB.1.2.2.2.1
    have hM : bM B ≤ 8 := hB.1.1.2.2.2.2.2.2.2.1
    refine ⟨s, hA, Fm.rf o s, hr, ?_⟩
    simp (disch := omega) only [f_X3_outlook_L42, hP, c8, upto, cml, List.flatMap_nil, List.foldl_nil, g_kk, g_k1, g_n1, g_k2, g_n2, g_k3, g_n3, g_k4, g_n4, g_k5, g_n5, g_k7, g_n7, g_k8, g_n8, g_k9, g_n9, g_k6, g_r3, g_r4, g_r5, g_r6, g_r7, g_r10, g_q0, g_q1, g_q2, p_kk, p_k1, p_n1, p_k2, p_n2, p_k3, p_n3, p_k4, p_n4, p_k5, p_n5, p_k6, p_n6, p_k7, p_n7, p_k8, p_n8, p_k9, p_n9, p_k10, p_n10, p_k11, p_n11, p_k13, p_n13, p_k12, p_r2, p_r4, p_r5, p_r6, p_r7, p_r9, p_r10, p_r11, p_r13, p_r14, p_r15, p_r16, p_h0, n_i8, n_i16, n_0, n_31, n_add, n_sub, n_mul, n_neg, n_div, n_rem, n_le_t, n_le_f, n_lt_t, n_lt_f, n_eq_t, n_eq_f, n_cl, n_gd, n_gdt, n_nz, Int.reduceToNat, Int.reduceAdd, Int.reduceSub, Int.reduceMul, Int.reduceNeg, Int.reduceLT, Int.reduceLE, Int.reduceEq, Int.reduceDiv, Int.reduceMod, Nat.reduceAdd, Nat.reduceMul, ↓reduceIte, u_eq, u_no, u_nk, u_ek, u_2, u_3, j_1, j_3, j_eq, j_no, j_nk, ltd, bnd]
  | succ n ih =>
    intro F i r s hA hr h0 hn hF
    obtain ⟨F, rfl⟩ : ∃ F', F = F' + 1 := ⟨F - 1, by omega⟩
    have hA' := hA
    obtain ⟨⟨hB, hG⟩, ⟨ho, hp⟩, hP, hPB, -⟩ := hA'
    have c8 : s.1 p 8 = Int32.ofInt (bM B) := hPB.1.2.2.2.1
    have hM : bM B ≤ 8 := hB.1.1.2.2.2.2.2.2.2.1
    have hgs := hG.1.2.2
    have hi := c_isOut hA h0 (show i < bM B by omega) hgs.1 hgs.2
    have hg := c_goals hA h0 (show i < bM B by omega)
    have hcm : cml B G (upto (n + 1) i) = cm1 B G i ++ cml B G (upto n (i + 1)) := by
      show (i :: upto n (i + 1)).flatMap (cm1 B G) = _
      rw [List.flatMap_cons]
      rfl
    rw [hcm, List.foldl_append]
    cases e : outB B G (gs G) i with
    | false =>
      rw [e] at hi
      have hnil : cm1 B G i = [] := by unfold cm1; rw [if_neg (by rw [e]; decide)]
      rw [hnil, List.foldl_nil]
      obtain ⟨s', q1, q2, q3, q4⟩ := ih F (i + 1) r s hA hr (by omega) (by omega) (by omega)
      obtain ⟨s1, w1, w2, w3, w4⟩ := c_out_L79 ho (rc := rc) (t := gs G) (d := d) (m := i) (g := fun _ => false) (v := fun _ => 0) (fun _ => by omega) (fun q s _ _ h => by cases h) (f_X3_outlook_L42 rc K F) 25 fuel 0 r s hA hr (by omega) (by omega) (by unfold fuel; omega)
      have hnil2 : (upto 25 0).filter (fun _ : Int => false) = [] := List.filter_eq_nil_iff.mpr (fun _ _ => by decide)
      rw [hnil2, List.foldl_nil, bmk_no] at w4
      obtain ⟨s2, q1, q2, q3, q4⟩ := ih F (i + 1) r s1 w1 hr (by omega) (by omega) (by omega)
      refine ⟨s2, q1, w2.tr q2, q3, ?_⟩
      rw [← q4, ← w4]
      rw [f_X3_outlook_L42]
      simp (disch := omega) only [f_X3_outlook_j74, hP, c8, hi, bI_f, g_kk, g_k1, g_n1, g_k2, g_n2, g_k3, g_n3, g_k4, g_n4, g_k5, g_n5, g_k7, g_n7, g_k8, g_n8, g_k9, g_n9, g_k6, g_r3, g_r4, g_r5, g_r6, g_r7, g_r10, g_q0, g_q1, g_q2, p_kk, p_k1, p_n1, p_k2, p_n2, p_k3, p_n3, p_k4, p_n4, p_k5, p_n5, p_k6, p_n6, p_k7, p_n7, p_k8, p_n8, p_k9, p_n9, p_k10, p_n10, p_k11, p_n11, p_k13, p_n13, p_k12, p_r2, p_r4, p_r5, p_r6, p_r7, p_r9, p_r10, p_r11, p_r13, p_r14, p_r15, p_r16, p_h0, n_i8, n_i16, n_0, n_31, n_add, n_sub, n_mul, n_neg, n_div, n_rem, n_le_t, n_le_f, n_lt_t, n_lt_f, n_eq_t, n_eq_f, n_cl, n_gd, n_gdt, n_nz, Int.reduceToNat, Int.reduceAdd, Int.reduceSub, Int.reduceMul, Int.reduceNeg, Int.reduceLT, Int.reduceLE, Int.reduceEq, Int.reduceDiv, Int.reduceMod, Nat.reduceAdd, Nat.reduceMul, ↓reduceIte, u_eq, u_no, u_nk, u_ek, u_2, u_3, j_1, j_3, j_eq, j_no, j_nk, ltd, bnd]
    | true =>
      rw [e] at hi
      have hcm1 : cm1 B G i = (pls.filter (gQ B G i)).map (fun q => (i, q)) := by unfold cm1; rw [if_pos e]
      rw [hcm1, List.foldl_map]
      obtain ⟨s1, w1, w2, w3, w4⟩ := c_out_L79 ho (rc := rc) (t := gs G) (d := d) (m := i) (g := gQ B G i) (v := V i) (hv i) (fun q s q0 q1 hgq hGA => hrc i q s h0 (by omega) q0 q1 e hgq hGA) (f_X3_outlook_L42 rc K F) 25 fuel 0 r s hA hr (by omega) (by omega) (by unfold fuel; omega)
      obtain ⟨s2, q1, q2, q3, q4⟩ := ih F (i + 1) _ s1 w1 w3 (by omega) (by omega) (by omega)
      refine ⟨s2, q1, w2.tr q2, q3, ?_⟩
      have w4 : f_X3_outlook_L79 rc (f_X3_outlook_L42 rc K F) fuel o (Int32.ofInt (gs G)) (Int32.ofInt d) (bI r.2) (Int32.ofInt r.1) (Int32.ofInt i) (bmk (gQ B G i)) (Int32.ofInt 0) s = f_X3_outlook_L42 rc K F o (Int32.ofInt (gs G)) (Int32.ofInt d) (bI ((pls.filter (gQ B G i)).foldl (fun r q => bst r (V i q)) r).2) (Int32.ofInt ((pls.filter (gQ B G i)).foldl (fun r q => bst r (V i q)) r).1) (Int32.ofInt (i + 1)) s1 := w4
      refine Eq.trans ?_ (w4.trans q4)
      rw [f_X3_outlook_L42]
      simp (disch := omega) only [f_X3_outlook_j74, hP, c8, hi, hg, bI_t, g_kk, g_k1, g_n1, g_k2, g_n2, g_k3, g_n3, g_k4, g_n4, g_k5, g_n5, g_k7, g_n7, g_k8, g_n8, g_k9, g_n9, g_k6, g_r3, g_r4, g_r5, g_r6, g_r7, g_r10, g_q0, g_q1, g_q2, p_kk, p_k1, p_n1, p_k2, p_n2, p_k3, p_n3, p_k4, p_n4, p_k5, p_n5, p_k6, p_n6, p_k7, p_n7, p_k8, p_n8, p_k9, p_n9, p_k10, p_n10, p_k11, p_n11, p_k13, p_n13, p_k12, p_r2, p_r4, p_r5, p_r6, p_r7, p_r9, p_r10, p_r11, p_r13, p_r14, p_r15, p_r16, p_h0, n_i8, n_i16, n_0, n_31, n_add, n_sub, n_mul, n_neg, n_div, n_rem, n_le_t, n_le_f, n_lt_t, n_lt_f, n_eq_t, n_eq_f, n_cl, n_gd, n_gdt, n_nz, Int.reduceToNat, Int.reduceAdd, Int.reduceSub, Int.reduceMul, Int.reduceNeg, Int.reduceLT, Int.reduceLE, Int.reduceEq, Int.reduceDiv, Int.reduceMod, Nat.reduceAdd, Nat.reduceMul, ↓reduceIte, u_eq, u_no, u_nk, u_ek, u_2, u_3, j_1, j_3, j_eq, j_no, j_nk, ltd, bnd]
