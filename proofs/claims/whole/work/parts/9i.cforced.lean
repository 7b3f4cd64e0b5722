/-! L3: forced crowns as the class finds them -/
theorem any_mvl {B : Brd} {G : Gam} (P : Int → Int → Bool) : ∀ l : List Int, l.any (fun m => (sqs B).any (fun k => cond B G m k && P m k)) = (l.flatMap (mv1 B G)).any (fun x => P x.1 x.2)
  | [] => rfl
  | m :: l => by
    rw [List.any_cons, List.flatMap_cons, List.any_append, any_mvl P l]
    congr 1
    unfold mv1
    rw [List.any_map, List.any_filter]
    rfl
theorem cml_any {B : Brd} (hB : Bv B) {G : Gam} (P : Gam → Bool) : (cml B G (mens B)).any (fun x => P (mvG B G x.1 (x.2 % 5) (x.2 / 5))) = (mens B).any (fun m => (sqs B).any (fun k => cond B G m k && P (mvK B G m k))) := by
  rw [any_mvl (fun m k => P (mvK B G m k)), cml_mv hB, List.any_map]
  show (mvl B G).any _ = (mvl B G).any _
  rw [Bool.eq_iff_iff, List.any_eq_true, List.any_eq_true]
  have hM0 : 0 ≤ bM B := hB.1.1.2.2.2.2.2.2.1
  have key : ∀ x ∈ mvl B G, ((fun x => P (mvG B G x.1 (x.2 % 5) (x.2 / 5))) ∘ (fun p => (p.1, p5 B p.2))) x = P (mvK B G x.1 x.2) := fun x hx => by
    have := mvl_mem hM0 hx
    show P (mvG B G x.1 (p5 B x.2 % 5) (p5 B x.2 / 5)) = _
    rw [mvG_p5 hB this.2.2.1 this.2.2.2.1]
  exact ⟨fun ⟨x, hx, h⟩ => ⟨x, hx, (key x hx).symm.trans h⟩, fun ⟨x, hx, h⟩ => ⟨x, hx, (key x hx).trans h⟩⟩
theorem lost_eq {B : Brd} {G : Gam} {m x y : Int} : lost B (mvG B G m x y) = (!ct B (mvG B G m x y) && chk B (mvG B G m x y) (gs G)) := by
  unfold lost
  rw [mvG_s, show 1 - (1 - gs G) = gs G by omega]
theorem c_corn_L38 {B : Brd} {G : Gam} {o p : Nat} {m : Int} (m0 : 0 ≤ m) (m1 : m < bM B) {g : Int → Bool} (hgq : ∀ q, g q = true → gQ B G m q = true) (K : Nat → Int32 → Int32 → Int32 → ST → Option (Int32 × ST)) : ∀ (n F : Nat) (i : Int) (a : Bool) (s : ST), GA B G o p s → 0 ≤ i → (n : Int) = 25 - i → n < F → (((upto n i).filter g).any (fun q => !lost B (mvG B G m (q % 5) (q / 5))) = false → ∃ s', GA B G o p s' ∧ Fm o s s' ∧ f_X3_isCornered_L38 K F o (Int32.ofInt (gs G)) (bI a) (Int32.ofInt m) (bmk g) (Int32.ofInt i) s = K o (Int32.ofInt (gs G)) (bI (a || ((upto n i).filter g).any (fun _ => true))) (Int32.ofInt (m + 1)) s') ∧ (((upto n i).filter g).any (fun q => !lost B (mvG B G m (q % 5) (q / 5))) = true → ∃ s', GA B G o p s' ∧ Fm o s s' ∧ f_X3_isCornered_L38 K F o (Int32.ofInt (gs G)) (bI a) (Int32.ofInt m) (bmk g) (Int32.ofInt i) s = some (Int32.ofInt 0, s')) := by
  intro n
  by_cases hz : bmk g = Int32.ofInt 0
  · intro F i a s hA h0 hn hF
    obtain ⟨F, rfl⟩ : ∃ F', F = F' + 1 := ⟨F - 1, by omega⟩
    have hg := bmk_0.mp hz
    have hnil : (upto n i).filter g = [] := List.filter_eq_nil_iff.mpr (fun q hq => by
      rw [mem_upto] at hq
      rw [hg q (by omega) (by omega)]; decide)
    rw [hnil]
    refine ⟨fun _ => ⟨s, hA, Fm.rf o s, ?_⟩, fun c => by cases c⟩
    simp (disch := omega) only [f_X3_isCornered_L38, hz, List.any_nil, Bool.or_false, n_i8, n_i16, n_0, n_31, n_add, n_sub, n_mul, n_neg, n_div, n_rem, n_le_t, n_le_f, n_lt_t, n_lt_f, n_eq_t, n_eq_f, n_cl, n_gd, n_gdt, n_nz, Int.reduceToNat, Int.reduceAdd, Int.reduceSub, Int.reduceMul, Int.reduceNeg, Int.reduceLT, Int.reduceLE, Int.reduceEq, Int.reduceDiv, Int.reduceMod, Nat.reduceAdd, Nat.reduceMul, ↓reduceIte]
  · induction n with
    | zero =>
      intro F i a s hA h0 hn hF
      obtain ⟨F, rfl⟩ : ∃ F', F = F' + 1 := ⟨F - 1, by omega⟩
      refine ⟨fun _ => ⟨s, hA, Fm.rf o s, ?_⟩, fun c => by cases c⟩
      simp (disch := omega) only [f_X3_isCornered_L38, if_neg hz, upto, List.filter_nil, List.any_nil, Bool.or_false, n_i8, n_i16, n_0, n_31, n_add, n_sub, n_mul, n_neg, n_div, n_rem, n_le_t, n_le_f, n_lt_t, n_lt_f, n_eq_t, n_eq_f, n_cl, n_gd, n_gdt, n_nz, Int.reduceToNat, Int.reduceAdd, Int.reduceSub, Int.reduceMul, Int.reduceNeg, Int.reduceLT, Int.reduceLE, Int.reduceEq, Int.reduceDiv, Int.reduceMod, Nat.reduceAdd, Nat.reduceMul, ↓reduceIte]
    | succ n ih =>
      intro F i a s hA h0 hn hF
      obtain ⟨F, rfl⟩ : ∃ F', F = F' + 1 := ⟨F - 1, by omega⟩
      have hb := bit_q g (q := i) h0 (by omega)
      simp only [upto]
      rw [List.filter_cons]
      cases e : g i with
      | false =>
        rw [e] at hb
        rw [if_neg (by decide)]
        have ih := ih F (i + 1) a s hA (by omega) (by omega) (by omega)
        have hstep : f_X3_isCornered_L38 K (F + 1) o (Int32.ofInt (gs G)) (bI a) (Int32.ofInt m) (bmk g) (Int32.ofInt i) s = f_X3_isCornered_L38 K F o (Int32.ofInt (gs G)) (bI a) (Int32.ofInt m) (bmk g) (Int32.ofInt (i + 1)) s := by
          rw [f_X3_isCornered_L38]
          simp (disch := omega) only [if_neg hz, hb, bI_f, n_i8, n_i16, n_0, n_31, n_add, n_sub, n_mul, n_neg, n_div, n_rem, n_le_t, n_le_f, n_lt_t, n_lt_f, n_eq_t, n_eq_f, n_cl, n_gd, n_gdt, n_nz, Int.reduceToNat, Int.reduceAdd, Int.reduceSub, Int.reduceMul, Int.reduceNeg, Int.reduceLT, Int.reduceLE, Int.reduceEq, Int.reduceDiv, Int.reduceMod, Nat.reduceAdd, Nat.reduceMul, ↓reduceIte]
        rw [hstep]
        exact ih
      | true =>
        rw [e] at hb
        rw [if_pos rfl, List.any_cons]
        have hA' := hA
        obtain ⟨⟨hB, hG⟩, ⟨ho, hp⟩, hP, hPB, hplc, -⟩ := hA'
        have hM : bM B ≤ 8 := hB.1.1.2.2.2.2.2.2.2.1
        have cpl := hplc m m0 m1
        have hgs := hG.1.2.2
        have hok := gQ_okM m0 m1 (hgq i e)
        obtain ⟨s1, w1, w2, w3⟩ := c_carry hA hok
        rw [show 5 * (i / 5) + i % 5 = i by omega] at w1
        obtain ⟨s2, w4, w5, w6⟩ := c_back hG hok w2
        have h9 := w2.2.2.2.2.2.2.2.2
        have hzz := ct_ctn (B := B) (mvG B G m (i % 5) (i / 5))
        have hcb := ctn_b hB (mvG B G m (i % 5) (i / 5))
        have hth := c_threat w2 (u := 1 - gs G) (by omega) (by omega)
        rw [show 1 - (1 - gs G) = gs G by omega] at hth
        have hlo := lost_eq (B := B) (G := G) (m := m) (x := i % 5) (y := i / 5)
        have ih := ih F (i + 1) true s2 w5 (by omega) (by omega) (by omega)
        cases el : lost B (mvG B G m (i % 5) (i / 5)) with
        | false =>
          rw [Bool.not_false, Bool.true_or]
          refine ⟨fun c => (by cases c), fun _ => ⟨s2, w5, w3.tr w6, ?_⟩⟩
          rw [el] at hlo
          rw [f_X3_isCornered_L38]
          cases ec : ct B (mvG B G m (i % 5) (i / 5)) with
          | true =>
            have hne : ¬ ctn B (mvG B G m (i % 5) (i / 5)) = 0 := fun c => by have := hzz.2.mp c; rw [ec] at this; cases this
            simp (disch := omega) only [f_X3_isCornered_j98, f_X3_isCornered_j99, if_neg hz, hb, cpl, w1, h9, w4, bI_t, g_kk, g_k1, g_n1, g_k2, g_n2, g_k3, g_n3, g_k4, g_n4, g_k5, g_n5, g_k7, g_n7, g_k8, g_n8, g_k9, g_n9, g_k6, g_r3, g_r4, g_r5, g_r6, g_r7, g_r10, g_q0, g_q1, g_q2, p_kk, p_k1, p_n1, p_k2, p_n2, p_k3, p_n3, p_k4, p_n4, p_k5, p_n5, p_k6, p_n6, p_k7, p_n7, p_k8, p_n8, p_k9, p_n9, p_k10, p_n10, p_k11, p_n11, p_k13, p_n13, p_k12, p_r2, p_r4, p_r5, p_r6, p_r7, p_r9, p_r10, p_r11, p_r13, p_r14, p_r15, p_r16, p_h0, n_i8, n_i16, n_0, n_31, n_add, n_sub, n_mul, n_neg, n_div, n_rem, n_le_t, n_le_f, n_lt_t, n_lt_f, n_eq_t, n_eq_f, n_cl, n_gd, n_gdt, n_nz, Int.reduceToNat, Int.reduceAdd, Int.reduceSub, Int.reduceMul, Int.reduceNeg, Int.reduceLT, Int.reduceLE, Int.reduceEq, Int.reduceDiv, Int.reduceMod, Nat.reduceAdd, Nat.reduceMul, ↓reduceIte, u_eq, u_no, u_nk, u_ek, u_2, u_3, j_1, j_3, j_eq, j_no, j_nk, ltd, bnd]
          | false =>
            rw [ec, Bool.not_false, Bool.true_and] at hlo
            rw [hzz.2.mpr ec] at h9
            rw [← hlo] at hth
            simp (disch := omega) only [f_X3_isCornered_j98, f_X3_isCornered_j99, if_neg hz, hb, cpl, w1, h9, hth, w4, bI_t, bI_f, g_kk, g_k1, g_n1, g_k2, g_n2, g_k3, g_n3, g_k4, g_n4, g_k5, g_n5, g_k7, g_n7, g_k8, g_n8, g_k9, g_n9, g_k6, g_r3, g_r4, g_r5, g_r6, g_r7, g_r10, g_q0, g_q1, g_q2, p_kk, p_k1, p_n1, p_k2, p_n2, p_k3, p_n3, p_k4, p_n4, p_k5, p_n5, p_k6, p_n6, p_k7, p_n7, p_k8, p_n8, p_k9, p_n9, p_k10, p_n10, p_k11, p_n11, p_k13, p_n13, p_k12, p_r2, p_r4, p_r5, p_r6, p_r7, p_r9, p_r10, p_r11, p_r13, p_r14, p_r15, p_r16, p_h0, n_i8, n_i16, n_0, n_31, n_add, n_sub, n_mul, n_neg, n_div, n_rem, n_le_t, n_le_f, n_lt_t, n_lt_f, n_eq_t, n_eq_f, n_cl, n_gd, n_gdt, n_nz, Int.reduceToNat, Int.reduceAdd, Int.reduceSub, Int.reduceMul, Int.reduceNeg, Int.reduceLT, Int.reduceLE, Int.reduceEq, Int.reduceDiv, Int.reduceMod, Nat.reduceAdd, Nat.reduceMul, ↓reduceIte, u_eq, u_no, u_nk, u_ek, u_2, u_3, j_1, j_3, j_eq, j_no, j_nk, ltd, bnd]
        | true =>
          rw [Bool.not_true, Bool.false_or]
          rw [el] at hlo
          have hl2 := hlo.symm
          rw [Bool.and_eq_true] at hl2
          have ec : ct B (mvG B G m (i % 5) (i / 5)) = false := by cases k : ct B (mvG B G m (i % 5) (i / 5)) with
            | true => rw [k] at hl2; cases hl2.1
            | false => rfl
          rw [hzz.2.mpr ec] at h9
          rw [hl2.2] at hth
          have hstep : f_X3_isCornered_L38 K (F + 1) o (Int32.ofInt (gs G)) (bI a) (Int32.ofInt m) (bmk g) (Int32.ofInt i) s = f_X3_isCornered_L38 K F o (Int32.ofInt (gs G)) (bI true) (Int32.ofInt m) (bmk g) (Int32.ofInt (i + 1)) s2 := by
            rw [f_X3_isCornered_L38]
            simp (disch := omega) only [f_X3_isCornered_j98, f_X3_isCornered_j99, if_neg hz, hb, cpl, w1, h9, hth, w4, bI_t, g_kk, g_k1, g_n1, g_k2, g_n2, g_k3, g_n3, g_k4, g_n4, g_k5, g_n5, g_k7, g_n7, g_k8, g_n8, g_k9, g_n9, g_k6, g_r3, g_r4, g_r5, g_r6, g_r7, g_r10, g_q0, g_q1, g_q2, p_kk, p_k1, p_n1, p_k2, p_n2, p_k3, p_n3, p_k4, p_n4, p_k5, p_n5, p_k6, p_n6, p_k7, p_n7, p_k8, p_n8, p_k9, p_n9, p_k10, p_n10, p_k11, p_n11, p_k13, p_n13, p_k12, p_r2, p_r4, p_r5, p_r6, p_r7, p_r9, p_r10, p_r11, p_r13, p_r14, p_r15, p_r16, p_h0, n_i8, n_i16, n_0, n_31, n_add, n_sub, n_mul, n_neg, n_div, n_rem, n_le_t, n_le_f, n_lt_t, n_lt_f, n_eq_t, n_eq_f, n_cl, n_gd, n_gdt, n_nz, Int.reduceToNat, Int.reduceAdd, Int.reduceSub, Int.reduceMul, Int.reduceNeg, Int.reduceLT, Int.reduceLE, Int.reduceEq, Int.reduceDiv, Int.reduceMod, Nat.reduceAdd, Nat.reduceMul, ↓reduceIte, u_eq, u_no, u_nk, u_ek, u_2, u_3, j_1, j_3, j_eq, j_no, j_nk, ltd, bnd]
          rw [hstep]
          refine ⟨fun c => ?_, fun c => ?_⟩
          · obtain ⟨s3, r1, r2, r3⟩ := ih.1 c
            refine ⟨s3, r1, (w3.tr w6).tr r2, ?_⟩
            rw [r3]
            rw [Bool.true_or, List.any_cons, Bool.true_or, Bool.or_true]
          · obtain ⟨s3, r1, r2, r3⟩ := ih.2 c
            exact ⟨s3, r1, (w3.tr w6).tr r2, r3⟩
theorem c_corn_L4 {B : Brd} {G : Gam} {o p : Nat} : ∀ (n F : Nat) (i : Int) (a : Bool) (s : ST), GA B G o p s → 0 ≤ i → (n : Int) = bM B - i → n < F → ∃ s', GA B G o p s' ∧ Fm o s s' ∧ f_X3_isCornered_L4 F o (Int32.ofInt (gs G)) (bI a) (Int32.ofInt i) s = some (bI (if (cml B G (upto n i)).any (fun x => !lost B (mvG B G x.1 (x.2 % 5) (x.2 / 5))) = true then false else (a || (cml B G (upto n i)).any (fun _ => true))), s') := by
  intro n
  induction n with
  | zero =>
    intro F i a s hA h0 hn hF
    obtain ⟨F, rfl⟩ : ∃ F', F = F' + 1 := ⟨F - 1, by omega⟩
    have hA' := hA
    obtain ⟨⟨hB, hG⟩, ⟨ho, hp⟩, hP, hPB, -⟩ := hA'
    have c8 : s.1 p 8 = Int32.ofInt (bM B) := hPB.1.2.2.2.1
    have hM : bM B ≤ 8 := hB.1.1.2.2.2.2.2.2.2.1
    refine ⟨s, hA, Fm.rf o s, ?_⟩
    have e1 : (if (cml B G (upto 0 i)).any (fun x => !lost B (mvG B G x.1 (x.2 % 5) (x.2 / 5))) = true then false else (a || (cml B G (upto 0 i)).any (fun _ => true))) = a := by
      show (if false = true then false else (a || false)) = a
      rw [if_neg (by decide), Bool.or_false]
    rw [e1]
    simp (disch := omega) only [f_X3_isCornered_L4, hP, c8, n_nb, g_kk, g_k1, g_n1, g_k2, g_n2, g_k3, g_n3, g_k4, g_n4, g_k5, g_n5, g_k7, g_n7, g_k8, g_n8, g_k9, g_n9, g_k6, g_r3, g_r4, g_r5, g_r6, g_r7, g_r10, g_q0, g_q1, g_q2, p_kk, p_k1, p_n1, p_k2, p_n2, p_k3, p_n3, p_k4, p_n4, p_k5, p_n5, p_k6, p_n6, p_k7, p_n7, p_k8, p_n8, p_k9, p_n9, p_k10, p_n10, p_k11, p_n11, p_k13, p_n13, p_k12, p_r2, p_r4, p_r5, p_r6, p_r7, p_r9, p_r10, p_r11, p_r13, p_r14, p_r15, p_r16, p_h0, n_i8, n_i16, n_0, n_31, n_add, n_sub, n_mul, n_neg, n_div, n_rem, n_le_t, n_le_f, n_lt_t, n_lt_f, n_eq_t, n_eq_f, n_cl, n_gd, n_gdt, n_nz, Int.reduceToNat, Int.reduceAdd, Int.reduceSub, Int.reduceMul, Int.reduceNeg, Int.reduceLT, Int.reduceLE, Int.reduceEq, Int.reduceDiv, Int.reduceMod, Nat.reduceAdd, Nat.reduceMul, ↓reduceIte, u_eq, u_no, u_nk, u_ek, u_2, u_3, j_1, j_3, j_eq, j_no, j_nk, ltd, bnd]
  | succ n ih =>
    intro F i a s hA h0 hn hF
    obtain ⟨F, rfl⟩ : ∃ F', F = F' + 1 := ⟨F - 1, by omega⟩
    have hA' := hA
    obtain ⟨⟨hB, hG⟩, ⟨ho, hp⟩, hP, hPB, -⟩ := hA'
    have c8 : s.1 p 8 = Int32.ofInt (bM B) := hPB.1.2.2.2.1
    have hM : bM B ≤ 8 := hB.1.1.2.2.2.2.2.2.2.1
    have hgs := hG.1.2.2
    have hi := c_isOut hA h0 (show i < bM B by omega) hgs.1 hgs.2
    have hg := c_goals hA h0 (show i < bM B by omega)
    have hcm : cml B G (upto (n + 1) i) = cm1 B G i ++ cml B G (upto n (i + 1)) := by
      show (i :: upto n (i + 1)).flatMap (cm1 B G) = _
      rw [List.flatMap_cons]
      rfl
    rw [hcm, List.any_append, List.any_append]
    cases e : outB B G (gs G) i with
    | false =>
      rw [e] at hi
      have hnil : cm1 B G i = [] := by unfold cm1; rw [if_neg (by rw [e]; decide)]
      rw [hnil, List.any_nil, List.any_nil, Bool.false_or, Bool.false_or]
      have hL := c_corn_L38 (G := G) (o := o) (p := p) h0 (show i < bM B by omega) (g := fun _ => false) (fun q h => by cases h) (f_X3_isCornered_L4 F) 25 fuel 0 a s hA (by omega) (by omega) (by unfold fuel; omega)
      have hnil2 : (upto 25 0).filter (fun _ : Int => false) = [] := List.filter_eq_nil_iff.mpr (fun _ _ => by decide)
      rw [hnil2, bmk_no] at hL
      obtain ⟨s1, w1, w2, w3⟩ := hL.1 rfl
      rw [List.any_nil, Bool.or_false] at w3
      obtain ⟨s2, q1, q2, q4⟩ := ih F (i + 1) a s1 w1 (by omega) (by omega) (by omega)
      refine ⟨s2, q1, w2.tr q2, ?_⟩
      refine Eq.trans ?_ (w3.trans q4)
      rw [f_X3_isCornered_L4]
      simp (disch := omega) only [f_X3_isCornered_j33, hP, c8, hi, bI_f, g_kk, g_k1, g_n1, g_k2, g_n2, g_k3, g_n3, g_k4, g_n4, g_k5, g_n5, g_k7, g_n7, g_k8, g_n8, g_k9, g_n9, g_k6, g_r3, g_r4, g_r5, g_r6, g_r7, g_r10, g_q0, g_q1, g_q2, p_kk, p_k1, p_n1, p_k2, p_n2, p_k3, p_n3, p_k4, p_n4, p_k5, p_n5, p_k6, p_n6, p_k7, p_n7, p_k8, p_n8, p_k9, p_n9, p_k10, p_n10, p_k11, p_n11, p_k13, p_n13, p_k12, p_r2, p_r4, p_r5, p_r6, p_r7, p_r9, p_r10, p_r11, p_r13, p_r14, p_r15, p_r16, p_h0, n_i8, n_i16, n_0, n_31, n_add, n_sub, n_mul, n_neg, n_div, n_rem, n_le_t, n_le_f, n_lt_t, n_lt_f, n_eq_t, n_eq_f, n_cl, n_gd, n_gdt, n_nz, Int.reduceToNat, Int.reduceAdd, Int.reduceSub, Int.reduceMul, Int.reduceNeg, Int.reduceLT, Int.reduceLE, Int.reduceEq, Int.reduceDiv, Int.reduceMod, Nat.reduceAdd, Nat.reduceMul, ↓reduceIte, u_eq, u_no, u_nk, u_ek, u_2, u_3, j_1, j_3, j_eq, j_no, j_nk, ltd, bnd]
    | true =>
      rw [e] at hi
      have hcm1 : cm1 B G i = (pls.filter (gQ B G i)).map (fun q => (i, q)) := by unfold cm1; rw [if_pos e]
      rw [hcm1, List.any_map, List.any_map]
      have hL := c_corn_L38 (G := G) (o := o) (p := p) h0 (show i < bM B by omega) (g := gQ B G i) (fun q h => h) (f_X3_isCornered_L4 F) 25 fuel 0 a s hA (by omega) (by omega) (by unfold fuel; omega)
      have hstep : ∀ s' : ST, f_X3_isCornered_L4 (F + 1) o (Int32.ofInt (gs G)) (bI a) (Int32.ofInt i) s = f_X3_isCornered_L38 (f_X3_isCornered_L4 F) fuel o (Int32.ofInt (gs G)) (bI a) (Int32.ofInt i) (bmk (gQ B G i)) (Int32.ofInt 0) s := fun _ => by
        rw [f_X3_isCornered_L4]
        simp (disch := omega) only [f_X3_isCornered_j33, hP, c8, hi, hg, bI_t, g_kk, g_k1, g_n1, g_k2, g_n2, g_k3, g_n3, g_k4, g_n4, g_k5, g_n5, g_k7, g_n7, g_k8, g_n8, g_k9, g_n9, g_k6, g_r3, g_r4, g_r5, g_r6, g_r7, g_r10, g_q0, g_q1, g_q2, p_kk, p_k1, p_n1, p_k2, p_n2, p_k3, p_n3, p_k4, p_n4, p_k5, p_n5, p_k6, p_n6, p_k7, p_n7, p_k8, p_n8, p_k9, p_n9, p_k10, p_n10, p_k11, p_n11, p_k13, p_n13, p_k12, p_r2, p_r4, p_r5, p_r6, p_r7, p_r9, p_r10, p_r11, p_r13, p_r14, p_r15, p_r16, p_h0, n_i8, n_i16, n_0, n_31, n_add, n_sub, n_mul, n_neg, n_div, n_rem, n_le_t, n_le_f, n_lt_t, n_lt_f, n_eq_t, n_eq_f, n_cl, n_gd, n_gdt, n_nz, Int.reduceToNat, Int.reduceAdd, Int.reduceSub, Int.reduceMul, Int.reduceNeg, Int.reduceLT, Int.reduceLE, Int.reduceEq, Int.reduceDiv, Int.reduceMod, Nat.reduceAdd, Nat.reduceMul, ↓reduceIte, u_eq, u_no, u_nk, u_ek, u_2, u_3, j_1, j_3, j_eq, j_no, j_nk, ltd, bnd]
      rw [hstep s]
      have ea : (pls.filter (gQ B G i)).any ((fun x => !lost B (mvG B G x.1 (x.2 % 5) (x.2 / 5))) ∘ (fun q => (i, q))) = ((upto 25 0).filter (gQ B G i)).any (fun q => !lost B (mvG B G i (q % 5) (q / 5))) := rfl
      have eb : (pls.filter (gQ B G i)).any ((fun _ : Int × Int => true) ∘ (fun q => (i, q))) = ((upto 25 0).filter (gQ B G i)).any (fun _ => true) := rfl
      rw [ea, eb]
      cases k : ((upto 25 0).filter (gQ B G i)).any (fun q => !lost B (mvG B G i (q % 5) (q / 5))) with
      | true =>
        obtain ⟨s1, w1, w2, w3⟩ := hL.2 k
        rw [Bool.true_or, if_pos rfl]
        exact ⟨s1, w1, w2, w3⟩
      | false =>
        obtain ⟨s1, w1, w2, w3⟩ := hL.1 k
        rw [Bool.false_or]
        obtain ⟨s2, q1, q2, q4⟩ := ih F (i + 1) _ s1 w1 (by omega) (by omega) (by omega)
        refine ⟨s2, q1, w2.tr q2, ?_⟩
        rw [w3, q4, Bool.or_assoc]
theorem frc_c {B : Brd} (hB : Bv B) (G : Gam) : frc B G = (if (cml B G (mens B)).any (fun x => !lost B (mvG B G x.1 (x.2 % 5) (x.2 / 5))) = true then false else (false || (cml B G (mens B)).any (fun _ => true))) := by
  have h1 := cml_any hB (G := G) (fun G' => !lost B G')
  have h2 := cml_any hB (G := G) (fun _ => true)
  unfold frc frcL
  rw [h1, h2]
  have : (mens B).any (fun m => (sqs B).any (fun k => cond B G m k && true)) = (mens B).any (fun m => (sqs B).any (cond B G m)) := by
    congr 1
    funext m
    congr 1
    funext k
    rw [Bool.and_true]
  rw [this]
theorem c_cornered {B : Brd} {G : Gam} {o p : Nat} {s : ST} (hA : GA B G o p s) : ∃ s', f_X3_isCornered o (Int32.ofInt (gs G)) s = some (bI (frc B G), s') ∧ GA B G o p s' ∧ Fm o s s' := by
  have hM0 : 0 ≤ bM B := hA.1.1.1.1.2.2.2.2.2.2.1
  have hM : bM B ≤ 8 := hA.1.1.1.1.2.2.2.2.2.2.2.1
  obtain ⟨s1, w1, w2, w3⟩ := c_corn_L4 (bM B).toNat fuel 0 false s hA (by omega) (by omega) (by unfold fuel; omega)
  rw [frc_c hA.1.1]
  exact ⟨s1, w3, w1, w2⟩
theorem c_cornersBy {B : Brd} {G : Gam} {o p : Nat} {s : ST} (hA : GA B G o p s) {m q : Int} (m0 : 0 ≤ m) (m1 : m < bM B) (q0 : 0 ≤ q) (q1 : q < 25) (hm : sd B m = gs G) (hq : gQ B G m q = true) : ∃ s', f_X3_cornersBy o (Int32.ofInt m) (Int32.ofInt q) s = some (bI (crn B (mvG B G m (q % 5) (q / 5))), s') ∧ GA B G o p s' ∧ Fm o s s' := by
  have hA' := hA
  obtain ⟨⟨hB, hG⟩, ⟨ho, hp⟩, hP, hPB, hplc, -⟩ := hA'
  have hM : bM B ≤ 8 := hB.1.1.2.2.2.2.2.2.2.1
  have cpl := hplc m m0 m1
  have hok := gQ_okM m0 m1 hq
  obtain ⟨s1, w1, w2, w3⟩ := c_carry hA hok
  rw [show 5 * (q / 5) + q % 5 = q by omega] at w1
  have hP1 : RR s1.2.2 o 0 = some p := w2.2.2.1
  have csd : s1.1 (p + 7) m.toNat = Int32.ofInt (sd B m) := (w2.2.2.2.1.2.2.1 m m0 m1).2
  have hgs := hG.1.2.2
  have hsg : gs (mvG B G m (q % 5) (q / 5)) = 1 - gs G := mvG_s B G m _ _
  rw [hm] at csd
  have h9 := w2.2.2.2.2.2.2.2.2
  have hzz := ct_ctn (B := B) (mvG B G m (q % 5) (q / 5))
  have hcb := ctn_b hB (mvG B G m (q % 5) (q / 5))
  unfold crn
  cases ec : ct B (mvG B G m (q % 5) (q / 5)) with
  | true =>
    have hne : ¬ ctn B (mvG B G m (q % 5) (q / 5)) = 0 := fun c => by have := hzz.2.mp c; rw [ec] at this; cases this
    obtain ⟨s3, w7, w8, w9⟩ := c_back hG hok w2
    refine ⟨s3, ?_, w8, w3.tr w9⟩
    rw [Bool.not_true, Bool.false_and]
    have hnb : ∀ x : Option (Int32 × ST), gd (nb (Int32.ofInt 0)) x = x := fun x => n_nb false x
    simp (disch := omega) only [f_X3_cornersBy, f_X3_cornersBy_j44, f_X3_cornersBy_j45, cpl, w1, h9, w7, hnb, bI_f, g_kk, g_k1, g_n1, g_k2, g_n2, g_k3, g_n3, g_k4, g_n4, g_k5, g_n5, g_k7, g_n7, g_k8, g_n8, g_k9, g_n9, g_k6, g_r3, g_r4, g_r5, g_r6, g_r7, g_r10, g_q0, g_q1, g_q2, p_kk, p_k1, p_n1, p_k2, p_n2, p_k3, p_n3, p_k4, p_n4, p_k5, p_n5, p_k6, p_n6, p_k7, p_n7, p_k8, p_n8, p_k9, p_n9, p_k10, p_n10, p_k11, p_n11, p_k13, p_n13, p_k12, p_r2, p_r4, p_r5, p_r6, p_r7, p_r9, p_r10, p_r11, p_r13, p_r14, p_r15, p_r16, p_h0, n_i8, n_i16, n_0, n_31, n_add, n_sub, n_mul, n_neg, n_div, n_rem, n_le_t, n_le_f, n_lt_t, n_lt_f, n_eq_t, n_eq_f, n_cl, n_gd, n_gdt, n_nz, Int.reduceToNat, Int.reduceAdd, Int.reduceSub, Int.reduceMul, Int.reduceNeg, Int.reduceLT, Int.reduceLE, Int.reduceEq, Int.reduceDiv, Int.reduceMod, Nat.reduceAdd, Nat.reduceMul, ↓reduceIte, u_eq, u_no, u_nk, u_ek, u_2, u_3, j_1, j_3, j_eq, j_no, j_nk, ltd, bnd]
  | false =>
    rw [hzz.2.mpr ec] at h9
    obtain ⟨s2, w4, w5, w6⟩ := c_cornered w2
    rw [hsg] at w4
    obtain ⟨s3, w7, w8, w9⟩ := c_back hG hok w5
    refine ⟨s3, ?_, w8, (w3.tr w6).tr w9⟩
    rw [Bool.not_false, Bool.true_and]
    have hnb : ∀ x : Option (Int32 × ST), gd (nb (Int32.ofInt 0)) x = x := fun x => n_nb false x
    have hnb1 : ∀ x : Option (Int32 × ST), gd (nb (Int32.ofInt 1)) x = x := fun x => n_nb true x
    cases ef : frc B (mvG B G m (q % 5) (q / 5)) with
    | true =>
      rw [ef] at w4
      simp (disch := omega) only [f_X3_cornersBy, f_X3_cornersBy_j44, f_X3_cornersBy_j45, cpl, w1, h9, hP1, csd, w4, w7, hnb, hnb1, bI_t, g_kk, g_k1, g_n1, g_k2, g_n2, g_k3, g_n3, g_k4, g_n4, g_k5, g_n5, g_k7, g_n7, g_k8, g_n8, g_k9, g_n9, g_k6, g_r3, g_r4, g_r5, g_r6, g_r7, g_r10, g_q0, g_q1, g_q2, p_kk, p_k1, p_n1, p_k2, p_n2, p_k3, p_n3, p_k4, p_n4, p_k5, p_n5, p_k6, p_n6, p_k7, p_n7, p_k8, p_n8, p_k9, p_n9, p_k10, p_n10, p_k11, p_n11, p_k13, p_n13, p_k12, p_r2, p_r4, p_r5, p_r6, p_r7, p_r9, p_r10, p_r11, p_r13, p_r14, p_r15, p_r16, p_h0, n_i8, n_i16, n_0, n_31, n_add, n_sub, n_mul, n_neg, n_div, n_rem, n_le_t, n_le_f, n_lt_t, n_lt_f, n_eq_t, n_eq_f, n_cl, n_gd, n_gdt, n_nz, Int.reduceToNat, Int.reduceAdd, Int.reduceSub, Int.reduceMul, Int.reduceNeg, Int.reduceLT, Int.reduceLE, Int.reduceEq, Int.reduceDiv, Int.reduceMod, Nat.reduceAdd, Nat.reduceMul, ↓reduceIte, u_eq, u_no, u_nk, u_ek, u_2, u_3, j_1, j_3, j_eq, j_no, j_nk, ltd, bnd]
    | false =>
      rw [ef] at w4
      simp (disch := omega) only [f_X3_cornersBy, f_X3_cornersBy_j44, f_X3_cornersBy_j45, cpl, w1, h9, hP1, csd, w4, w7, hnb, hnb1, bI_f, g_kk, g_k1, g_n1, g_k2, g_n2, g_k3, g_n3, g_k4, g_n4, g_k5, g_n5, g_k7, g_n7, g_k8, g_n8, g_k9, g_n9, g_k6, g_r3, g_r4, g_r5, g_r6, g_r7, g_r10, g_q0, g_q1, g_q2, p_kk, p_k1, p_n1, p_k2, p_n2, p_k3, p_n3, p_k4, p_n4, p_k5, p_n5, p_k6, p_n6, p_k7, p_n7, p_k8, p_n8, p_k9, p_n9, p_k10, p_n10, p_k11, p_n11, p_k13, p_n13, p_k12, p_r2, p_r4, p_r5, p_r6, p_r7, p_r9, p_r10, p_r11, p_r13, p_r14, p_r15, p_r16, p_h0, n_i8, n_i16, n_0, n_31, n_add, n_sub, n_mul, n_neg, n_div, n_rem, n_le_t, n_le_f, n_lt_t, n_lt_f, n_eq_t, n_eq_f, n_cl, n_gd, n_gdt, n_nz, Int.reduceToNat, Int.reduceAdd, Int.reduceSub, Int.reduceMul, Int.reduceNeg, Int.reduceLT, Int.reduceLE, Int.reduceEq, Int.reduceDiv, Int.reduceMod, Nat.reduceAdd, Nat.reduceMul, ↓reduceIte, u_eq, u_no, u_nk, u_ek, u_2, u_3, j_1, j_3, j_eq, j_no, j_nk, ltd, bnd]
theorem c_force_L64 {B : Brd} {G : Gam} {o p : Nat} {m : Int} (m0 : 0 ≤ m) (m1 : m < bM B) {g : Int → Bool} (hgq : ∀ q, g q = true → gQ B G m q = true ∧ sd B m = gs G) (K : Nat → Int32 → ST → Option (Int32 × ST)) : ∀ (n F : Nat) (i : Int) (s : ST), GA B G o p s → 0 ≤ i → (n : Int) = 25 - i → n < F → ∃ s', GA B G o p s' ∧ Fm o s s' ∧ f_X3_forcedBy_L64 K F o (Int32.ofInt m) (bmk g) (Int32.ofInt i) s = if ((upto n i).filter g).any (fun q => crn B (mvG B G m (q % 5) (q / 5))) = true then some (Int32.ofInt 2, s') else K o (Int32.ofInt (m + 1)) s' := by
  intro n
  by_cases hz : bmk g = Int32.ofInt 0
  · intro F i s hA h0 hn hF
    obtain ⟨F, rfl⟩ : ∃ F', F = F' + 1 := ⟨F - 1, by omega⟩
    have hg := bmk_0.mp hz
    have hnil : (upto n i).filter g = [] := List.filter_eq_nil_iff.mpr (fun q hq => by
      rw [mem_upto] at hq
      rw [hg q (by omega) (by omega)]; decide)
    rw [hnil]
    refine ⟨s, hA, Fm.rf o s, ?_⟩
    rw [if_neg (by simp)]
    simp (disch := omega) only [f_X3_forcedBy_L64, hz, n_i8, n_i16, n_0, n_31, n_add, n_sub, n_mul, n_neg, n_div, n_rem, n_le_t, n_le_f, n_lt_t, n_lt_f, n_eq_t, n_eq_f, n_cl, n_gd, n_gdt, n_nz, Int.reduceToNat, Int.reduceAdd, Int.reduceSub, Int.reduceMul, Int.reduceNeg, Int.reduceLT, Int.reduceLE, Int.reduceEq, Int.reduceDiv, Int.reduceMod, Nat.reduceAdd, Nat.reduceMul, ↓reduceIte]
  · induction n with
    | zero =>
      intro F i s hA h0 hn hF
      obtain ⟨F, rfl⟩ : ∃ F', F = F' + 1 := ⟨F - 1, by omega⟩
      refine ⟨s, hA, Fm.rf o s, ?_⟩
      rw [if_neg (by simp [upto])]
      simp (disch := omega) only [f_X3_forcedBy_L64, if_neg hz, n_i8, n_i16, n_0, n_31, n_add, n_sub, n_mul, n_neg, n_div, n_rem, n_le_t, n_le_f, n_lt_t, n_lt_f, n_eq_t, n_eq_f, n_cl, n_gd, n_gdt, n_nz, Int.reduceToNat, Int.reduceAdd, Int.reduceSub, Int.reduceMul, Int.reduceNeg, Int.reduceLT, Int.reduceLE, Int.reduceEq, Int.reduceDiv, Int.reduceMod, Nat.reduceAdd, Nat.reduceMul, ↓reduceIte]
    | succ n ih =>
      intro F i s hA h0 hn hF
      obtain ⟨F, rfl⟩ : ∃ F', F = F' + 1 := ⟨F - 1, by omega⟩
      have ho := hA.2.1.1
      have hb := bit_q g (q := i) h0 (by omega)
      have hfl : (upto (n + 1) i).filter g = if g i = true then i :: (upto n (i + 1)).filter g else (upto n (i + 1)).filter g := by
        show (i :: upto n (i + 1)).filter g = _
        rw [List.filter_cons]
      rw [hfl]
      cases e : g i with
      | false =>
        rw [e] at hb
        rw [if_neg (show ¬ false = true by decide)]
        obtain ⟨s', q1, q2, q3⟩ := ih F (i + 1) s hA (by omega) (by omega) (by omega)
        refine ⟨s', q1, q2, ?_⟩
        rw [← q3]
        rw [f_X3_forcedBy_L64]
        simp (disch := omega) only [if_neg hz, hb, bI_f, n_i8, n_i16, n_0, n_31, n_add, n_sub, n_mul, n_neg, n_div, n_rem, n_le_t, n_le_f, n_lt_t, n_lt_f, n_eq_t, n_eq_f, n_cl, n_gd, n_gdt, n_nz, Int.reduceToNat, Int.reduceAdd, Int.reduceSub, Int.reduceMul, Int.reduceNeg, Int.reduceLT, Int.reduceLE, Int.reduceEq, Int.reduceDiv, Int.reduceMod, Nat.reduceAdd, Nat.reduceMul, ↓reduceIte]
      | true =>
        rw [e] at hb
        rw [if_pos (show true = true from rfl), List.any_cons]
        obtain ⟨hq, hm⟩ := hgq i e
        obtain ⟨s1, w1, w2, w3⟩ := c_cornersBy hA m0 m1 h0 (by omega) hm hq
        cases k : crn B (mvG B G m (i % 5) (i / 5)) with
        | true =>
          rw [k] at w1
          refine ⟨s1, w2, w3, ?_⟩
          rw [Bool.true_or, if_pos rfl]
          rw [f_X3_forcedBy_L64]
          simp (disch := omega) only [if_neg hz, hb, w1, bI_t, g_kk, g_k1, g_n1, g_k2, g_n2, g_k3, g_n3, g_k4, g_n4, g_k5, g_n5, g_k7, g_n7, g_k8, g_n8, g_k9, g_n9, g_k6, g_r3, g_r4, g_r5, g_r6, g_r7, g_r10, g_q0, g_q1, g_q2, p_kk, p_k1, p_n1, p_k2, p_n2, p_k3, p_n3, p_k4, p_n4, p_k5, p_n5, p_k6, p_n6, p_k7, p_n7, p_k8, p_n8, p_k9, p_n9, p_k10, p_n10, p_k11, p_n11, p_k13, p_n13, p_k12, p_r2, p_r4, p_r5, p_r6, p_r7, p_r9, p_r10, p_r11, p_r13, p_r14, p_r15, p_r16, p_h0, n_i8, n_i16, n_0, n_31, n_add, n_sub, n_mul, n_neg, n_div, n_rem, n_le_t, n_le_f, n_lt_t, n_lt_f, n_eq_t, n_eq_f, n_cl, n_gd, n_gdt, n_nz, Int.reduceToNat, Int.reduceAdd, Int.reduceSub, Int.reduceMul, Int.reduceNeg, Int.reduceLT, Int.reduceLE, Int.reduceEq, Int.reduceDiv, Int.reduceMod, Nat.reduceAdd, Nat.reduceMul, ↓reduceIte, u_eq, u_no, u_nk, u_ek, u_2, u_3, j_1, j_3, j_eq, j_no, j_nk, ltd, bnd]
        | false =>
          rw [k] at w1
          obtain ⟨s', q1, q2, q3⟩ := ih F (i + 1) s1 w2 (by omega) (by omega) (by omega)
          refine ⟨s', q1, w3.tr q2, ?_⟩
          rw [Bool.false_or, ← q3]
          rw [f_X3_forcedBy_L64]
          simp (disch := omega) only [if_neg hz, hb, w1, bI_t, bI_f, g_kk, g_k1, g_n1, g_k2, g_n2, g_k3, g_n3, g_k4, g_n4, g_k5, g_n5, g_k7, g_n7, g_k8, g_n8, g_k9, g_n9, g_k6, g_r3, g_r4, g_r5, g_r6, g_r7, g_r10, g_q0, g_q1, g_q2, p_kk, p_k1, p_n1, p_k2, p_n2, p_k3, p_n3, p_k4, p_n4, p_k5, p_n5, p_k6, p_n6, p_k7, p_n7, p_k8, p_n8, p_k9, p_n9, p_k10, p_n10, p_k11, p_n11, p_k13, p_n13, p_k12, p_r2, p_r4, p_r5, p_r6, p_r7, p_r9, p_r10, p_r11, p_r13, p_r14, p_r15, p_r16, p_h0, n_i8, n_i16, n_0, n_31, n_add, n_sub, n_mul, n_neg, n_div, n_rem, n_le_t, n_le_f, n_lt_t, n_lt_f, n_eq_t, n_eq_f, n_cl, n_gd, n_gdt, n_nz, Int.reduceToNat, Int.reduceAdd, Int.reduceSub, Int.reduceMul, Int.reduceNeg, Int.reduceLT, Int.reduceLE, Int.reduceEq, Int.reduceDiv, Int.reduceMod, Nat.reduceAdd, Nat.reduceMul, ↓reduceIte, u_eq, u_no, u_nk, u_ek, u_2, u_3, j_1, j_3, j_eq, j_no, j_nk, ltd, bnd]
theorem c_force_L22 {B : Brd} {G : Gam} {o p : Nat} (hc : ct B G = false) : ∀ (n F : Nat) (i : Int) (s : ST), GA B G o p s → GS G o s → 0 ≤ i → (n : Int) = bM B - i → n < F → ∃ s', GA B G o p s' ∧ Fm o s s' ∧ f_X3_forcedBy_L22 F o (Int32.ofInt i) s = some (Int32.ofInt (if (cml B G (upto n i)).any (fun x => crn B (mvG B G x.1 (x.2 % 5) (x.2 / 5))) = true then 2 else -1), s') := by
  intro n
  induction n with
  | zero =>
    intro F i s hA hS h0 hn hF
    obtain ⟨F, rfl⟩ : ∃ F', F = F' + 1 := ⟨F - 1, by omega⟩
    have hA' := hA
    obtain ⟨⟨hB, hG⟩, ⟨ho, hp⟩, hP, hPB, -, -, -, -, h9⟩ := hA'
    rw [(ct_ctn G).2.mpr hc] at h9
    have c8 : s.1 p 8 = Int32.ofInt (bM B) := hPB.1.2.2.2.1
    have hM : bM B ≤ 8 := hB.1.1.2.2.2.2.2.2.2.1
    refine ⟨s, hA, Fm.rf o s, ?_⟩
    have : (cml B G (upto 0 i)).any (fun x => crn B (mvG B G x.1 (x.2 % 5) (x.2 / 5))) = false := rfl
    rw [this, if_neg (by decide)]
    simp (disch := omega) only [f_X3_forcedBy_L22, hP, c8, h9, g_kk, g_k1, g_n1, g_k2, g_n2, g_k3, g_n3, g_k4, g_n4, g_k5, g_n5, g_k7, g_n7, g_k8, g_n8, g_k9, g_n9, g_k6, g_r3, g_r4, g_r5, g_r6, g_r7, g_r10, g_q0, g_q1, g_q2, p_kk, p_k1, p_n1, p_k2, p_n2, p_k3, p_n3, p_k4, p_n4, p_k5, p_n5, p_k6, p_n6, p_k7, p_n7, p_k8, p_n8, p_k9, p_n9, p_k10, p_n10, p_k11, p_n11, p_k13, p_n13, p_k12, p_r2, p_r4, p_r5, p_r6, p_r7, p_r9, p_r10, p_r11, p_r13, p_r14, p_r15, p_r16, p_h0, n_i8, n_i16, n_0, n_31, n_add, n_sub, n_mul, n_neg, n_div, n_rem, n_le_t, n_le_f, n_lt_t, n_lt_f, n_eq_t, n_eq_f, n_cl, n_gd, n_gdt, n_nz, Int.reduceToNat, Int.reduceAdd, Int.reduceSub, Int.reduceMul, Int.reduceNeg, Int.reduceLT, Int.reduceLE, Int.reduceEq, Int.reduceDiv, Int.reduceMod, Nat.reduceAdd, Nat.reduceMul, ↓reduceIte, u_eq, u_no, u_nk, u_ek, u_2, u_3, j_1, j_3, j_eq, j_no, j_nk, ltd, bnd]
  | succ n ih =>
    intro F i s hA hS h0 hn hF
    obtain ⟨F, rfl⟩ : ∃ F', F = F' + 1 := ⟨F - 1, by omega⟩
    have hA' := hA
    obtain ⟨⟨hB, hG⟩, ⟨ho, hp⟩, hP, hPB, -, -, -, -, h9⟩ := hA'
    rw [(ct_ctn G).2.mpr hc] at h9
    have c8 : s.1 p 8 = Int32.ofInt (bM B) := hPB.1.2.2.2.1
    have hM : bM B ≤ 8 := hB.1.1.2.2.2.2.2.2.2.1
    have hgs := hG.1.2.2
    have hS' : s.1 o 2 = Int32.ofInt (gs G) := hS
    have hi := c_isOut hA h0 (show i < bM B by omega) hgs.1 hgs.2
    have hg := c_goals hA h0 (show i < bM B by omega)
    have hcm : cml B G (upto (n + 1) i) = cm1 B G i ++ cml B G (upto n (i + 1)) := by
      show (i :: upto n (i + 1)).flatMap (cm1 B G) = _
      rw [List.flatMap_cons]
      rfl
    rw [hcm, List.any_append]
    cases e : outB B G (gs G) i with
    | false =>
      rw [e] at hi
      have hnil : cm1 B G i = [] := by unfold cm1; rw [if_neg (by rw [e]; decide)]
      rw [hnil, List.any_nil, Bool.false_or]
      obtain ⟨s1, w1, w2, w3⟩ := c_force_L64 (G := G) (o := o) (p := p) h0 (show i < bM B by omega) (g := fun _ => false) (fun q h => by cases h) (f_X3_forcedBy_L22 F) 25 fuel 0 s hA (by omega) (by omega) (by unfold fuel; omega)
      have hnil2 : (upto 25 0).filter (fun _ : Int => false) = [] := List.filter_eq_nil_iff.mpr (fun _ _ => by decide)
      rw [hnil2, bmk_no, List.any_nil, if_neg (by decide)] at w3
      obtain ⟨s2, q1, q2, q4⟩ := ih F (i + 1) s1 w1 (GS_Fm hS w2) (by omega) (by omega) (by omega)
      refine ⟨s2, q1, w2.tr q2, ?_⟩
      refine Eq.trans ?_ (w3.trans q4)
      rw [f_X3_forcedBy_L22]
      simp (disch := omega) only [f_X3_forcedBy_j61, hP, c8, h9, hS', hi, bI_f, g_kk, g_k1, g_n1, g_k2, g_n2, g_k3, g_n3, g_k4, g_n4, g_k5, g_n5, g_k7, g_n7, g_k8, g_n8, g_k9, g_n9, g_k6, g_r3, g_r4, g_r5, g_r6, g_r7, g_r10, g_q0, g_q1, g_q2, p_kk, p_k1, p_n1, p_k2, p_n2, p_k3, p_n3, p_k4, p_n4, p_k5, p_n5, p_k6, p_n6, p_k7, p_n7, p_k8, p_n8, p_k9, p_n9, p_k10, p_n10, p_k11, p_n11, p_k13, p_n13, p_k12, p_r2, p_r4, p_r5, p_r6, p_r7, p_r9, p_r10, p_r11, p_r13, p_r14, p_r15, p_r16, p_h0, n_i8, n_i16, n_0, n_31, n_add, n_sub, n_mul, n_neg, n_div, n_rem, n_le_t, n_le_f, n_lt_t, n_lt_f, n_eq_t, n_eq_f, n_cl, n_gd, n_gdt, n_nz, Int.reduceToNat, Int.reduceAdd, Int.reduceSub, Int.reduceMul, Int.reduceNeg, Int.reduceLT, Int.reduceLE, Int.reduceEq, Int.reduceDiv, Int.reduceMod, Nat.reduceAdd, Nat.reduceMul, ↓reduceIte, u_eq, u_no, u_nk, u_ek, u_2, u_3, j_1, j_3, j_eq, j_no, j_nk, ltd, bnd]
    | true =>
      rw [e] at hi
      have hcm1 : cm1 B G i = (pls.filter (gQ B G i)).map (fun q => (i, q)) := by unfold cm1; rw [if_pos e]
      rw [hcm1, List.any_map]
      obtain ⟨s1, w1, w2, w3⟩ := c_force_L64 (G := G) (o := o) (p := p) h0 (show i < bM B by omega) (g := gQ B G i) (fun q h => ⟨h, outB_sd e⟩) (f_X3_forcedBy_L22 F) 25 fuel 0 s hA (by omega) (by omega) (by unfold fuel; omega)
      have hstep : f_X3_forcedBy_L22 (F + 1) o (Int32.ofInt i) s = f_X3_forcedBy_L64 (f_X3_forcedBy_L22 F) fuel o (Int32.ofInt i) (bmk (gQ B G i)) (Int32.ofInt 0) s := by
        rw [f_X3_forcedBy_L22]
        simp (disch := omega) only [f_X3_forcedBy_j61, hP, c8, h9, hS', hi, hg, bI_t, g_kk, g_k1, g_n1, g_k2, g_n2, g_k3, g_n3, g_k4, g_n4, g_k5, g_n5, g_k7, g_n7, g_k8, g_n8, g_k9, g_n9, g_k6, g_r3, g_r4, g_r5, g_r6, g_r7, g_r10, g_q0, g_q1, g_q2, p_kk, p_k1, p_n1, p_k2, p_n2, p_k3, p_n3, p_k4, p_n4, p_k5, p_n5, p_k6, p_n6, p_k7, p_n7, p_k8, p_n8, p_k9, p_n9, p_k10, p_n10, p_k11, p_n11, p_k13, p_n13, p_k12, p_r2, p_r4, p_r5, p_r6, p_r7, p_r9, p_r10, p_r11, p_r13, p_r14, p_r15, p_r16, p_h0, n_i8, n_i16, n_0, n_31, n_add, n_sub, n_mul, n_neg, n_div, n_rem, n_le_t, n_le_f, n_lt_t, n_lt_f, n_eq_t, n_eq_f, n_cl, n_gd, n_gdt, n_nz, Int.reduceToNat, Int.reduceAdd, Int.reduceSub, Int.reduceMul, Int.reduceNeg, Int.reduceLT, Int.reduceLE, Int.reduceEq, Int.reduceDiv, Int.reduceMod, Nat.reduceAdd, Nat.reduceMul, ↓reduceIte, u_eq, u_no, u_nk, u_ek, u_2, u_3, j_1, j_3, j_eq, j_no, j_nk, ltd, bnd]
      have ea : (pls.filter (gQ B G i)).any ((fun x => crn B (mvG B G x.1 (x.2 % 5) (x.2 / 5))) ∘ (fun q => (i, q))) = ((upto 25 0).filter (gQ B G i)).any (fun q => crn B (mvG B G i (q % 5) (q / 5))) := rfl
      rw [hstep, ea]
      cases k : ((upto 25 0).filter (gQ B G i)).any (fun q => crn B (mvG B G i (q % 5) (q / 5))) with
      | true =>
        rw [k, if_pos rfl] at w3
        rw [Bool.true_or, if_pos rfl]
        exact ⟨s1, w1, w2, w3⟩
      | false =>
        rw [k, if_neg (by decide)] at w3
        rw [Bool.false_or]
        obtain ⟨s2, q1, q2, q4⟩ := ih F (i + 1) s1 w1 (GS_Fm hS w2) (by omega) (by omega) (by omega)
        exact ⟨s2, q1, w2.tr q2, w3.trans q4⟩
theorem mvl_ovr {B : Brd} (hB : Bv B) {G : Gam} (hc : ct B G = false) (h : cml B G (mens B) ≠ []) : ovr B G = false := by
  have hM0 : 0 ≤ bM B := hB.1.1.2.2.2.2.2.2.1
  cases e : ovr B G with
  | false => rfl
  | true =>
    exfalso
    have h0 := (mvN_ovr hB (G := G)).mpr e
    unfold mvN at h0
    rw [hc, if_neg (by decide)] at h0
    have key : ∀ l : List Int, smL (mvN1 B G) l = ((cml B G l).length : Int) := by
      intro l
      induction l with
      | nil => rfl
      | cons m l ih =>
        have hcm : cml B G (m :: l) = cm1 B G m ++ cml B G l := by unfold cml; rw [List.flatMap_cons]
        rw [hcm, List.length_append]
        simp only [smL]
        rw [ih, mvN1_out hB, ← cm1_len]
        omega
    rw [key] at h0
    exact h (List.length_eq_zero_iff.mp (by omega))
theorem c_forced {B : Brd} {G : Gam} {o p : Nat} {s : ST} (hA : GA B G o p s) (hS : GS G o s) : ∃ s', f_X3_forcedBy o s = some (Int32.ofInt (fcd B G), s') ∧ GA B G o p s' ∧ Fm o s s' := by
  have hA' := hA
  obtain ⟨⟨hB, hG⟩, ⟨ho, hp⟩, hP, hPB, -, -, -, -, h9⟩ := hA'
  have hM0 : 0 ≤ bM B := hB.1.1.2.2.2.2.2.2.1
  have hM : bM B ≤ 8 := hB.1.1.2.2.2.2.2.2.2.1
  have hcb := ctn_b hB G
  have hz := ct_ctn (B := B) G
  have hgs := hG.1.2.2
  have hS' : s.1 o 2 = Int32.ofInt (gs G) := hS
  unfold fcd
  cases hc : ct B G with
  | true =>
    have hne : ¬ ctn B G = 0 := fun c => by have := hz.2.mp c; rw [hc] at this; cases this
    have hov : ovr B G = true := by unfold ovr; rw [hc, Bool.true_or]
    rw [hov, if_pos rfl]
    refine ⟨s, ?_, hA, Fm.rf o s⟩
    have hL : ∀ F : Nat, f_X3_forcedBy_L22 (F + 1) o (Int32.ofInt 0) s = some (Int32.ofInt (-1), s) := fun F => by
      simp (disch := omega) only [f_X3_forcedBy_L22, h9, g_kk, g_k1, g_n1, g_k2, g_n2, g_k3, g_n3, g_k4, g_n4, g_k5, g_n5, g_k7, g_n7, g_k8, g_n8, g_k9, g_n9, g_k6, g_r3, g_r4, g_r5, g_r6, g_r7, g_r10, g_q0, g_q1, g_q2, p_kk, p_k1, p_n1, p_k2, p_n2, p_k3, p_n3, p_k4, p_n4, p_k5, p_n5, p_k6, p_n6, p_k7, p_n7, p_k8, p_n8, p_k9, p_n9, p_k10, p_n10, p_k11, p_n11, p_k13, p_n13, p_k12, p_r2, p_r4, p_r5, p_r6, p_r7, p_r9, p_r10, p_r11, p_r13, p_r14, p_r15, p_r16, p_h0, n_i8, n_i16, n_0, n_31, n_add, n_sub, n_mul, n_neg, n_div, n_rem, n_le_t, n_le_f, n_lt_t, n_lt_f, n_eq_t, n_eq_f, n_cl, n_gd, n_gdt, n_nz, Int.reduceToNat, Int.reduceAdd, Int.reduceSub, Int.reduceMul, Int.reduceNeg, Int.reduceLT, Int.reduceLE, Int.reduceEq, Int.reduceDiv, Int.reduceMod, Nat.reduceAdd, Nat.reduceMul, ↓reduceIte, u_eq, u_no, u_nk, u_ek, u_2, u_3, j_1, j_3, j_eq, j_no, j_nk, ltd, bnd]
    have hL : f_X3_forcedBy_j20 o s = some (Int32.ofInt (-1), s) := hL 99999
    simp (disch := omega) only [f_X3_forcedBy, h9, hL, g_kk, g_k1, g_n1, g_k2, g_n2, g_k3, g_n3, g_k4, g_n4, g_k5, g_n5, g_k7, g_n7, g_k8, g_n8, g_k9, g_n9, g_k6, g_r3, g_r4, g_r5, g_r6, g_r7, g_r10, g_q0, g_q1, g_q2, p_kk, p_k1, p_n1, p_k2, p_n2, p_k3, p_n3, p_k4, p_n4, p_k5, p_n5, p_k6, p_n6, p_k7, p_n7, p_k8, p_n8, p_k9, p_n9, p_k10, p_n10, p_k11, p_n11, p_k13, p_n13, p_k12, p_r2, p_r4, p_r5, p_r6, p_r7, p_r9, p_r10, p_r11, p_r13, p_r14, p_r15, p_r16, p_h0, n_i8, n_i16, n_0, n_31, n_add, n_sub, n_mul, n_neg, n_div, n_rem, n_le_t, n_le_f, n_lt_t, n_lt_f, n_eq_t, n_eq_f, n_cl, n_gd, n_gdt, n_nz, Int.reduceToNat, Int.reduceAdd, Int.reduceSub, Int.reduceMul, Int.reduceNeg, Int.reduceLT, Int.reduceLE, Int.reduceEq, Int.reduceDiv, Int.reduceMod, Nat.reduceAdd, Nat.reduceMul, ↓reduceIte, u_eq, u_no, u_nk, u_ek, u_2, u_3, j_1, j_3, j_eq, j_no, j_nk, ltd, bnd]
  | false =>
    rw [hz.2.mpr hc] at h9
    have hth := c_threat hA (u := gs G) hgs.1 hgs.2
    cases hk : chk B G (1 - gs G) with
    | true =>
      have hov : ovr B G = false := by
        refine mvl_ovr hB hc (fun hnil => ?_)
        have h1 := thr_eq hB hG hgs.1 hgs.2
        rw [hk, List.any_eq_true] at h1
        obtain ⟨m, hm, h2⟩ := h1
        unfold hitF at h2
        rw [Bool.and_eq_true, List.any_eq_true] at h2
        obtain ⟨h2, q, hq, h3⟩ := h2
        rw [Bool.and_eq_true] at h3
        have : (m, q) ∈ cml B G (mens B) := by
          unfold cml
          refine List.mem_flatMap.mpr ⟨m, hm, ?_⟩
          unfold cm1
          rw [if_pos h2]
          exact List.mem_map.mpr ⟨q, List.mem_filter.mpr ⟨hq, h3.1⟩, rfl⟩
        rw [hnil] at this
        cases this
      rw [hk] at hth
      rw [hov, if_neg (by decide), if_pos rfl]
      refine ⟨s, ?_, hA, Fm.rf o s⟩
      simp (disch := omega) only [f_X3_forcedBy, h9, hS', hth, bI_t, g_kk, g_k1, g_n1, g_k2, g_n2, g_k3, g_n3, g_k4, g_n4, g_k5, g_n5, g_k7, g_n7, g_k8, g_n8, g_k9, g_n9, g_k6, g_r3, g_r4, g_r5, g_r6, g_r7, g_r10, g_q0, g_q1, g_q2, p_kk, p_k1, p_n1, p_k2, p_n2, p_k3, p_n3, p_k4, p_n4, p_k5, p_n5, p_k6, p_n6, p_k7, p_n7, p_k8, p_n8, p_k9, p_n9, p_k10, p_n10, p_k11, p_n11, p_k13, p_n13, p_k12, p_r2, p_r4, p_r5, p_r6, p_r7, p_r9, p_r10, p_r11, p_r13, p_r14, p_r15, p_r16, p_h0, n_i8, n_i16, n_0, n_31, n_add, n_sub, n_mul, n_neg, n_div, n_rem, n_le_t, n_le_f, n_lt_t, n_lt_f, n_eq_t, n_eq_f, n_cl, n_gd, n_gdt, n_nz, Int.reduceToNat, Int.reduceAdd, Int.reduceSub, Int.reduceMul, Int.reduceNeg, Int.reduceLT, Int.reduceLE, Int.reduceEq, Int.reduceDiv, Int.reduceMod, Nat.reduceAdd, Nat.reduceMul, ↓reduceIte, u_eq, u_no, u_nk, u_ek, u_2, u_3, j_1, j_3, j_eq, j_no, j_nk, ltd, bnd]
    | false =>
      rw [hk] at hth
      obtain ⟨s1, w1, w2, w3⟩ := c_force_L22 hc (bM B).toNat fuel 0 s hA hS (by omega) (by omega) (by unfold fuel; omega)
      have w3 : f_X3_forcedBy_j20 o s = some (Int32.ofInt (if (cml B G (mens B)).any (fun x => crn B (mvG B G x.1 (x.2 % 5) (x.2 / 5))) = true then 2 else -1), s1) := w3
      have hca := cml_any hB (G := G) (crn B)
      refine ⟨s1, ?_, w1, w2⟩
      have hres : (if ovr B G = true then (-1 : Int) else if false = true then 1 else if (mens B).any (fun m => (sqs B).any (fun k => cond B G m k && crn B (mvK B G m k))) = true then 2 else -1) = (if (cml B G (mens B)).any (fun x => crn B (mvG B G x.1 (x.2 % 5) (x.2 / 5))) = true then 2 else -1) := by
        rw [← hca]
        cases hov : ovr B G with
        | false => rw [if_neg (by decide), if_neg (by decide)]
        | true =>
          rw [if_pos rfl]
          cases ha : (cml B G (mens B)).any (fun x => crn B (mvG B G x.1 (x.2 % 5) (x.2 / 5))) with
          | false => rw [if_neg (by decide)]
          | true =>
            exfalso
            rw [List.any_eq_true] at ha
            obtain ⟨x, hx, -⟩ := ha
            have := mvl_ovr hB hc (fun hnil => by rw [hnil] at hx; cases hx)
            rw [hov] at this
            cases this
      rw [hres, ← w3]
      simp (disch := omega) only [f_X3_forcedBy, h9, hS', hth, bI_f, g_kk, g_k1, g_n1, g_k2, g_n2, g_k3, g_n3, g_k4, g_n4, g_k5, g_n5, g_k7, g_n7, g_k8, g_n8, g_k9, g_n9, g_k6, g_r3, g_r4, g_r5, g_r6, g_r7, g_r10, g_q0, g_q1, g_q2, p_kk, p_k1, p_n1, p_k2, p_n2, p_k3, p_n3, p_k4, p_n4, p_k5, p_n5, p_k6, p_n6, p_k7, p_n7, p_k8, p_n8, p_k9, p_n9, p_k10, p_n10, p_k11, p_n11, p_k13, p_n13, p_k12, p_r2, p_r4, p_r5, p_r6, p_r7, p_r9, p_r10, p_r11, p_r13, p_r14, p_r15, p_r16, p_h0, n_i8, n_i16, n_0, n_31, n_add, n_sub, n_mul, n_neg, n_div, n_rem, n_le_t, n_le_f, n_lt_t, n_lt_f, n_eq_t, n_eq_f, n_cl, n_gd, n_gdt, n_nz, Int.reduceToNat, Int.reduceAdd, Int.reduceSub, Int.reduceMul, Int.reduceNeg, Int.reduceLT, Int.reduceLE, Int.reduceEq, Int.reduceDiv, Int.reduceMod, Nat.reduceAdd, Nat.reduceMul, ↓reduceIte, u_eq, u_no, u_nk, u_ek, u_2, u_3, j_1, j_3, j_eq, j_no, j_nk, ltd, bnd]
