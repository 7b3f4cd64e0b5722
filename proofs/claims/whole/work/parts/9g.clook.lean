/-! L3: VALUE as the class finds it -/
theorem bst_z : ∀ (l : List Int) (b : Int), (l.foldl bst (b, false)).1 = if (l.foldl bst (0, false)).2 = true then (l.foldl bst (0, false)).1 else b
  | [], b => rfl
  | v :: l, b => by
    have h : ∀ a : Int, bst (a, false) v = (v, true) := fun a => by unfold bst; rw [if_neg (fun c => by cases c.1)]
    rw [List.foldl_cons, List.foldl_cons, h, h, (bst_mx l v).2, if_pos rfl]
theorem c_behind {B : Brd} {G : Gam} {o p : Nat} {s : ST} (hA : GA B G o p s) {d : Int} (d1 : 1 ≤ d) (d2 : d ≤ 10) {f : Gam → Int} {rc : Nat → Int32 → Int32 → ST → Option (Int32 × ST)} (hrc : ∀ (G' : Gam) (s : ST), GA B G' o p s → ∃ s', rc o (Int32.ofInt (gs G')) (Int32.ofInt (d - 1)) s = some (Int32.ofInt (f G'), s') ∧ GA B G' o p s' ∧ Fm o s s') {m q : Int} (m0 : 0 ≤ m) (m1 : m < bM B) (q0 : 0 ≤ q) (q1 : q < 25) (hm : sd B m = gs G) (hq : gQ B G m q = true) : ∃ s', f_X3_outlookBehind rc o (Int32.ofInt m) (Int32.ofInt q) (Int32.ofInt d) s = some (Int32.ofInt (-(f (mvG B G m (q % 5) (q / 5)))), s') ∧ GA B G o p s' ∧ Fm o s s' := by
  have hA' := hA
  obtain ⟨⟨hB, hG⟩, ⟨ho, hp⟩, hP, hPB, hplc, -⟩ := hA'
  have hM : bM B ≤ 8 := hB.1.1.2.2.2.2.2.2.2.1
  have cpl := hplc m m0 m1
  have hok := gQ_okM m0 m1 hq
  obtain ⟨s1, w1, w2, w3⟩ := c_carry hA hok
  rw [show 5 * (q / 5) + q % 5 = q by omega] at w1
  have hP1 : RR s1.2.2 o 0 = some p := w2.2.2.1
  have csd : s1.1 (p + 7) m.toNat = Int32.ofInt (sd B m) := (w2.2.2.2.1.2.2.1 m m0 m1).2
  obtain ⟨s2, w4, w5, w6⟩ := hrc _ s1 w2
  obtain ⟨s3, w7, w8, w9⟩ := c_back hG hok w5
  have hgs := hG.1.2.2
  have hsg : gs (mvG B G m (q % 5) (q / 5)) = 1 - gs G := mvG_s B G m _ _
  rw [hsg] at w4
  rw [hm] at csd
  refine ⟨s3, ?_, w8, (w3.tr w6).tr w9⟩
  simp (disch := omega) only [f_X3_outlookBehind, cpl, w1, hP1, csd, w4, w7, g_kk, g_k1, g_n1, g_k2, g_n2, g_k3, g_n3, g_k4, g_n4, g_k5, g_n5, g_k7, g_n7, g_k8, g_n8, g_k9, g_n9, g_k6, g_r3, g_r4, g_r5, g_r6, g_r7, g_r10, g_q0, g_q1, g_q2, p_kk, p_k1, p_n1, p_k2, p_n2, p_k3, p_n3, p_k4, p_n4, p_k5, p_n5, p_k6, p_n6, p_k7, p_n7, p_k8, p_n8, p_k9, p_n9, p_k10, p_n10, p_k11, p_n11, p_k13, p_n13, p_k12, p_r2, p_r4, p_r5, p_r6, p_r7, p_r9, p_r10, p_r11, p_r13, p_r14, p_r15, p_r16, p_h0, n_i8, n_i16, n_0, n_31, n_add, n_sub, n_mul, n_neg, n_div, n_rem, n_le_t, n_le_f, n_lt_t, n_lt_f, n_eq_t, n_eq_f, n_cl, n_gd, n_gdt, n_nz, Int.reduceToNat, Int.reduceAdd, Int.reduceSub, Int.reduceMul, Int.reduceNeg, Int.reduceLT, Int.reduceLE, Int.reduceEq, Int.reduceDiv, Int.reduceMod, Nat.reduceAdd, Nat.reduceMul, ↓reduceIte, u_eq, u_no, u_nk, u_ek, u_2, u_3, j_1, j_3, j_eq, j_no, j_nk, ltd, bnd]
theorem outB_sd {B : Brd} {G : Gam} {t m : Int} (h : outB B G t m = true) : sd B m = t := by
  unfold outB at h
  rw [Bool.and_eq_true] at h
  exact of_decide_eq_true h.1
theorem c_outlook {B : Brd} {o p : Nat} : ∀ (n d : Nat) (G : Gam) (s : ST), d < n → d ≤ 9 → GA B G o p s → ∃ s', t2_outlook n o (Int32.ofInt (gs G)) (Int32.ofInt (d : Int)) s = some (Int32.ofInt (val B d G), s') ∧ GA B G o p s' ∧ Fm o s s' := by
  intro n
  induction n with
  | zero => intro d G s h; omega
  | succ n ih =>
    intro d G s hd h9d hA
    have hA' := hA
    obtain ⟨⟨hB, hG⟩, ⟨ho, hp⟩, hP, hPB, -, -, -, -, h9⟩ := hA'
    have hgs := hG.1.2.2
    have hbal := c_balanceOf hA hgs.1 hgs.2
    have hbb := bal_bd hB G (gs G)
    have hcb := ctn_b hB G
    have hz := ct_ctn (B := B) G
    have hM0 : 0 ≤ bM B := hB.1.1.2.2.2.2.2.2.1
    have hM : bM B ≤ 8 := hB.1.1.2.2.2.2.2.2.2.1
    show ∃ s', f_X3_outlook (f_X3_outlookBehind (t2_outlook n)) o (Int32.ofInt (gs G)) (Int32.ofInt (d : Int)) s = some (Int32.ofInt (val B d G), s') ∧ _
    match d, hd, h9d with
    | 0, hd, _ =>
      refine ⟨s, ?_, hA, Fm.rf o s⟩
      show f_X3_outlook _ o (Int32.ofInt (gs G)) (Int32.ofInt 0) s = some (Int32.ofInt (bal B G (gs G)), s)
      simp (disch := omega) only [f_X3_outlook, f_X3_outlook_j11, hbal, g_kk, g_k1, g_n1, g_k2, g_n2, g_k3, g_n3, g_k4, g_n4, g_k5, g_n5, g_k7, g_n7, g_k8, g_n8, g_k9, g_n9, g_k6, g_r3, g_r4, g_r5, g_r6, g_r7, g_r10, g_q0, g_q1, g_q2, p_kk, p_k1, p_n1, p_k2, p_n2, p_k3, p_n3, p_k4, p_n4, p_k5, p_n5, p_k6, p_n6, p_k7, p_n7, p_k8, p_n8, p_k9, p_n9, p_k10, p_n10, p_k11, p_n11, p_k13, p_n13, p_k12, p_r2, p_r4, p_r5, p_r6, p_r7, p_r9, p_r10, p_r11, p_r13, p_r14, p_r15, p_r16, p_h0, n_i8, n_i16, n_0, n_31, n_add, n_sub, n_mul, n_neg, n_div, n_rem, n_le_t, n_le_f, n_lt_t, n_lt_f, n_eq_t, n_eq_f, n_cl, n_gd, n_gdt, n_nz, Int.reduceToNat, Int.reduceAdd, Int.reduceSub, Int.reduceMul, Int.reduceNeg, Int.reduceLT, Int.reduceLE, Int.reduceEq, Int.reduceDiv, Int.reduceMod, Nat.reduceAdd, Nat.reduceMul, ↓reduceIte, u_eq, u_no, u_nk, u_ek, u_2, u_3, j_1, j_3, j_eq, j_no, j_nk, ltd, bnd]
    | e + 1, hd, h9d =>
      have e0 : (0 : Int) ≤ (e : Int) := by omega
      have ecast : ((e + 1 : Nat) : Int) = (e : Int) + 1 := by omega
      rw [ecast]
      cases hc : ct B G with
      | true =>
        have hne : ¬ ctn B G = 0 := fun c => by have := hz.2.mp c; rw [hc] at this; cases this
        refine ⟨s, ?_, hA, Fm.rf o s⟩
        have hv : val B (e + 1) G = bal B G (gs G) := by
          show (if ct B G = true then _ else _) = _
          rw [hc, if_pos rfl]
        rw [hv]
        simp (disch := omega) only [f_X3_outlook, f_X3_outlook_j11, hbal, h9, g_kk, g_k1, g_n1, g_k2, g_n2, g_k3, g_n3, g_k4, g_n4, g_k5, g_n5, g_k7, g_n7, g_k8, g_n8, g_k9, g_n9, g_k6, g_r3, g_r4, g_r5, g_r6, g_r7, g_r10, g_q0, g_q1, g_q2, p_kk, p_k1, p_n1, p_k2, p_n2, p_k3, p_n3, p_k4, p_n4, p_k5, p_n5, p_k6, p_n6, p_k7, p_n7, p_k8, p_n8, p_k9, p_n9, p_k10, p_n10, p_k11, p_n11, p_k13, p_n13, p_k12, p_r2, p_r4, p_r5, p_r6, p_r7, p_r9, p_r10, p_r11, p_r13, p_r14, p_r15, p_r16, p_h0, n_i8, n_i16, n_0, n_31, n_add, n_sub, n_mul, n_neg, n_div, n_rem, n_le_t, n_le_f, n_lt_t, n_lt_f, n_eq_t, n_eq_f, n_cl, n_gd, n_gdt, n_nz, Int.reduceToNat, Int.reduceAdd, Int.reduceSub, Int.reduceMul, Int.reduceNeg, Int.reduceLT, Int.reduceLE, Int.reduceEq, Int.reduceDiv, Int.reduceMod, Nat.reduceAdd, Nat.reduceMul, ↓reduceIte, u_eq, u_no, u_nk, u_ek, u_2, u_3, j_1, j_3, j_eq, j_no, j_nk, ltd, bnd]
      | false =>
        rw [hz.2.mpr hc] at h9
        by_cases e1 : e = 0
        · subst e1
          have hpr := c_prey hA hgs.1 hgs.2
          refine ⟨s, ?_, hA, Fm.rf o s⟩
          rw [val1_dear hB hG hc]
          simp (disch := omega) only [f_X3_outlook, hbal, hpr, h9, g_kk, g_k1, g_n1, g_k2, g_n2, g_k3, g_n3, g_k4, g_n4, g_k5, g_n5, g_k7, g_n7, g_k8, g_n8, g_k9, g_n9, g_k6, g_r3, g_r4, g_r5, g_r6, g_r7, g_r10, g_q0, g_q1, g_q2, p_kk, p_k1, p_n1, p_k2, p_n2, p_k3, p_n3, p_k4, p_n4, p_k5, p_n5, p_k6, p_n6, p_k7, p_n7, p_k8, p_n8, p_k9, p_n9, p_k10, p_n10, p_k11, p_n11, p_k13, p_n13, p_k12, p_r2, p_r4, p_r5, p_r6, p_r7, p_r9, p_r10, p_r11, p_r13, p_r14, p_r15, p_r16, p_h0, n_i8, n_i16, n_0, n_31, n_add, n_sub, n_mul, n_neg, n_div, n_rem, n_le_t, n_le_f, n_lt_t, n_lt_f, n_eq_t, n_eq_f, n_cl, n_gd, n_gdt, n_nz, Int.reduceToNat, Int.reduceAdd, Int.reduceSub, Int.reduceMul, Int.reduceNeg, Int.reduceLT, Int.reduceLE, Int.reduceEq, Int.reduceDiv, Int.reduceMod, Nat.reduceAdd, Nat.reduceMul, ↓reduceIte, u_eq, u_no, u_nk, u_ek, u_2, u_3, j_1, j_3, j_eq, j_no, j_nk, ltd, bnd]
        · have hvb := val_b hB e
          obtain ⟨s1, w1, w2, w3, w4⟩ := c_out_L42 (B := B) (G := G) (o := o) (p := p) (rc := f_X3_outlookBehind (t2_outlook n)) (d := (e : Int) + 1) (V := fun m q => -(val B e (mvG B G m (q % 5) (q / 5)))) (fun m q => by have := hvb (mvG B G m (q % 5) (q / 5)); show -1000 ≤ -(val B e _) ∧ -(val B e _) ≤ 1000; omega) (fun m q s m0 m1 q0 q1 ho1 hgq hGA => by
            refine c_behind hGA (d := (e : Int) + 1) (by omega) (by omega) (f := val B e) (fun G' s' hGA' => ?_) m0 m1 q0 q1 (outB_sd ho1) hgq
            rw [show (e : Int) + 1 - 1 = (e : Int) by omega]
            exact ih e G' s' (by omega) (by omega) hGA') (f_X3_outlook_j144 (f_X3_outlookBehind (t2_outlook n))) (bM B).toNat fuel 0 (0, false) s hA (by unfold inb; decide) (by omega) (by omega) (by unfold fuel; omega)
          have w4 : f_X3_outlook_L42 (f_X3_outlookBehind (t2_outlook n)) (f_X3_outlook_j144 (f_X3_outlookBehind (t2_outlook n))) fuel o (Int32.ofInt (gs G)) (Int32.ofInt ((e : Int) + 1)) (Int32.ofInt 0) (Int32.ofInt 0) (Int32.ofInt 0) s = f_X3_outlook_j144 (f_X3_outlookBehind (t2_outlook n)) o (Int32.ofInt (gs G)) (bI ((cml B G (mens B)).foldl (fun r x => bst r (-(val B e (mvG B G x.1 (x.2 % 5) (x.2 / 5))))) (0, false)).2) (Int32.ofInt ((cml B G (mens B)).foldl (fun r x => bst r (-(val B e (mvG B G x.1 (x.2 % 5) (x.2 / 5))))) (0, false)).1) s1 := w4
          have hf := cml_fold hB (G := G) (fun (r : Int × Bool) m q => bst r (-(val B e (mvG B G m (q % 5) (q / 5))))) (fun r m k => bst r (-(val B e (mvK B G m k)))) (fun r m k _ _ k0 k1 _ _ => by rw [mvG_p5 hB k0 k1]) (0, false)
          rw [hf] at w4
          have hv : val B (e + 1) G = ((mvl B G).foldl (fun r x => bst r (-(val B e (mvK B G x.1 x.2)))) (bal B G (gs G), false)).1 := by
            show (if ct B G = true then _ else _) = _
            rw [hc, if_neg (by decide), vfold]
          have hm : ∀ b : Int, (mvl B G).foldl (fun r x => bst r (-(val B e (mvK B G x.1 x.2)))) (b, false) = ((mvl B G).map (fun x => -(val B e (mvK B G x.1 x.2)))).foldl bst (b, false) := fun b => by rw [List.foldl_map]
          rw [hm, bst_z] at hv
          rw [hm] at w4
          have hbal1 := c_balanceOf w1 hgs.1 hgs.2
          generalize ((mvl B G).map (fun x => -(val B e (mvK B G x.1 x.2)))).foldl bst (0, false) = r at *
          refine ⟨s1, ?_, w1, w2⟩
          rw [hv]
          cases er : r.2 with
          | true =>
            rw [er] at w4
            rw [if_pos rfl]
            simp (disch := omega) only [f_X3_outlook, f_X3_outlook_j144, h9, w4, bI_t, g_kk, g_k1, g_n1, g_k2, g_n2, g_k3, g_n3, g_k4, g_n4, g_k5, g_n5, g_k7, g_n7, g_k8, g_n8, g_k9, g_n9, g_k6, g_r3, g_r4, g_r5, g_r6, g_r7, g_r10, g_q0, g_q1, g_q2, p_kk, p_k1, p_n1, p_k2, p_n2, p_k3, p_n3, p_k4, p_n4, p_k5, p_n5, p_k6, p_n6, p_k7, p_n7, p_k8, p_n8, p_k9, p_n9, p_k10, p_n10, p_k11, p_n11, p_k13, p_n13, p_k12, p_r2, p_r4, p_r5, p_r6, p_r7, p_r9, p_r10, p_r11, p_r13, p_r14, p_r15, p_r16, p_h0, n_i8, n_i16, n_0, n_31, n_add, n_sub, n_mul, n_neg, n_div, n_rem, n_le_t, n_le_f, n_lt_t, n_lt_f, n_eq_t, n_eq_f, n_cl, n_gd, n_gdt, n_nz, Int.reduceToNat, Int.reduceAdd, Int.reduceSub, Int.reduceMul, Int.reduceNeg, Int.reduceLT, Int.reduceLE, Int.reduceEq, Int.reduceDiv, Int.reduceMod, Nat.reduceAdd, Nat.reduceMul, ↓reduceIte, u_eq, u_no, u_nk, u_ek, u_2, u_3, j_1, j_3, j_eq, j_no, j_nk, ltd, bnd]
          | false =>
            rw [er] at w4
            rw [if_neg (by decide)]
            simp (disch := omega) only [f_X3_outlook, f_X3_outlook_j144, h9, w4, hbal1, bI_f, g_kk, g_k1, g_n1, g_k2, g_n2, g_k3, g_n3, g_k4, g_n4, g_k5, g_n5, g_k7, g_n7, g_k8, g_n8, g_k9, g_n9, g_k6, g_r3, g_r4, g_r5, g_r6, g_r7, g_r10, g_q0, g_q1, g_q2, p_kk, p_k1, p_n1, p_k2, p_n2, p_k3, p_n3, p_k4, p_n4, p_k5, p_n5, p_k6, p_n6, p_k7, p_n7, p_k8, p_n8, p_k9, p_n9, p_k10, p_n10, p_k11, p_n11, p_k13, p_n13, p_k12, p_r2, p_r4, p_r5, p_r6, p_r7, p_r9, p_r10, p_r11, p_r13, p_r14, p_r15, p_r16, p_h0, n_i8, n_i16, n_0, n_31, n_add, n_sub, n_mul, n_neg, n_div, n_rem, n_le_t, n_le_f, n_lt_t, n_lt_f, n_eq_t, n_eq_f, n_cl, n_gd, n_gdt, n_nz, Int.reduceToNat, Int.reduceAdd, Int.reduceSub, Int.reduceMul, Int.reduceNeg, Int.reduceLT, Int.reduceLE, Int.reduceEq, Int.reduceDiv, Int.reduceMod, Nat.reduceAdd, Nat.reduceMul, ↓reduceIte, u_eq, u_no, u_nk, u_ek, u_2, u_3, j_1, j_3, j_eq, j_no, j_nk, ltd, bnd]
