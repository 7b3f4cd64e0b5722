/-! L3: the reference reads STATEMENTS to the end -/
variable {T : Int → Int} {n : Int}
def BFs (s s' : ST) : Prop := (∀ o k : Nat, ¬ LO o k → ¬ (o = 65 ∧ k = 57) → s'.1 o k = s.1 o k) ∧ (∀ o k : Nat, ¬ (o = 102 ∧ k < 24) → s'.2.1 o k = s.2.1 o k) ∧ s'.2.2 = s.2.2
theorem BFs.tr {s t u : ST} (h1 : BFs s t) (h2 : BFs t u) : BFs s u := ⟨fun o k x y => (h2.1 o k x y).trans (h1.1 o k x y), fun o k x => (h2.2.1 o k x).trans (h1.2.1 o k x), h2.2.2.trans h1.2.2⟩
theorem BFs.rf (s : ST) : BFs s s := ⟨fun _ _ _ _ => rfl, fun _ _ _ => rfl, rfl⟩
theorem BFr.s {s t : ST} (h : BFr s t) : BFs s t := ⟨fun o k x _ => h.1 o k x, h.2⟩
theorem BFr.st {s t : ST} (h : BFr s t) : t.1 65 57 = s.1 65 57 := h.1 65 57 (by unfold LO; omega)
theorem RDD_b {r : EX (DRF × Cur)} {s : ST} (h : RDD T n r s) : RG T n (cu r) s := by
  cases r with
  | error e => exact h
  | ok a => exact h.2
theorem m_semi {r : EX (DRF × Cur)} {s : ST} (h : RDD T n r s) {st : Int} (h57 : s.1 65 57 = Int32.ofInt st) : ∃ s', f_X10_statementTold_j145 s = some s' ∧ RDD T n (eb r (fun a => eb (tkS T n 59 a.2) (fun c' => .ok (a.1, c')))) s' ∧ s'.1 65 57 = Int32.ofInt (st + 1) ∧ BFs s s' := by
  obtain ⟨s1, q1, p1, r1⟩ := g_asign (RDD_b h) (ch := 59) (by omega) (by omega)
  have hf : ∀ o k : Nat, ¬ (o = 65 ∧ k = 57) → (uI s1 65 57 (Int32.ofInt (st + 1))).1 o k = s1.1 o k := fun o k x => by (simp only [ua, ja, u_2, u_3, j_1, j_3]; (repeat' split) <;> first | rfl | (exfalso; omega))
  have h57' := (p1.1 65 57 (by omega)).trans h57
  refine ⟨uI s1 65 57 (Int32.ofInt (st + 1)), ?_, ?_, u_eq _ _ _ _, p1.b.s.tr ⟨fun o k x y => hf o k y, fun _ _ _ => rfl, rfl⟩⟩
  · simp (disch := omega) only [f_X10_statementTold_j145, ↓bb q1, h57', n_i8, n_i16, n_0, n_31, n_add, n_sub, n_mul, n_neg, n_div, n_rem, n_le_t, n_le_f, n_lt_t, n_lt_f, n_eq_t, n_eq_f, n_cl, n_gd, n_gdt, n_nz, Int.reduceToNat, Int.reduceAdd, Int.reduceSub, Int.reduceMul, Int.reduceNeg, Int.reduceLT, Int.reduceLE, Int.reduceEq, Int.reduceDiv, Int.reduceMod, Nat.reduceAdd, Nat.reduceMul, ↓reduceIte, ltd]
  · cases r with
    | error e => exact RB_fr (r1 : RB e.1 e.2 s1) (hf 65 5 (by omega)) (hf 65 6 (by omega))
    | ok a =>
      have r1 : RG T n (tkS T n 59 a.2) s1 := r1
      rw [eb_ok]
      cases e1 : tkS T n 59 a.2 with
      | error e => exact RB_fr (RG_b r1 e1) (hf 65 5 (by omega)) (hf 65 6 (by omega))
      | ok c' =>
        obtain ⟨u1, u2⟩ := RG_o r1 e1
        exact ⟨⟨h.1.1, RD_fr (RD_p h.1.2 p1) (fun o k x => hf o k (by omega)) rfl⟩, RC_fr u1 (hf 65 2 (by omega)) (hf 65 3 (by omega)) (hf 65 4 (by omega)) (hf 65 5 (by omega)) (hf 65 6 (by omega)) (fun k => hf 66 k (by omega)), WDS_fr u2 (fun o k ho => hf o k (by omega))⟩
theorem m_stm {D : DRF} {c : Cur} {s : ST} {st : Int} (hc : RLk T n c s) (hw : WDS s) (hV : DV D.1 D.2.1 D.2.2) (hD : RD D.1 D.2.1 D.2.2 s) (h57 : s.1 65 57 = Int32.ofInt st) (st0 : 0 ≤ st) (st1 : st < 60) : ∃ s', f_X10_statementTold s = some s' ∧ RDD T n (stm1 T n D c) s' ∧ s'.1 65 57 = Int32.ofInt (st + 1) ∧ BFs s s' := by
  have hb := hc.b
  have h2 := hb.2.1
  have hcn : 0 ≤ c.1 ∧ c.1 ≤ n := by have := hb.2.2.1; omega
  have hVb := hV.1.2.1
  -- what a statement comes to; then its end
  have fin : ∀ s6 : ST, RDD T n (stmS T n D c) s6 → BFr s s6 → f_X10_statementTold s = f_X10_statementTold_j145 s6 → ∃ s', f_X10_statementTold s = some s' ∧ RDD T n (stm1 T n D c) s' ∧ s'.1 65 57 = Int32.ofInt (st + 1) ∧ BFs s s' := by
    intro s6 g1 g2 g3
    obtain ⟨s', q1, q2, q3, q4⟩ := m_semi g1 (g2.st.trans h57)
    exact ⟨s', by rw [g3, q1], q2, q3, g2.s.tr q4⟩
  obtain ⟨s1, a1, a2, a3, a4⟩ := m_takes hc.rc hw (o := 72) (by unfold wce; omega)
  have hw1 := WDS_p hw a4
  have hD1 := RD_p hD a4
  cases e1 : isWL T n c (WDl 4) with
  | true =>
    have e1' : isWL T n c (WDl (wno 72)) = true := e1
    rw [e1'] at a1
    have a1 : f_X10_takes 72 s = some (Int32.ofInt 1, s1) := a1
    have hwb := wd_b (isWL_W e1) hcn.1 hcn.2
    obtain ⟨s6, q1, q2, q3, q4⟩ := m_kndT (bg := frm T n c) hV hD1 (a2 e1') hw1
    refine fin s6 ?_ (a4.b.tr q2) (by simp (disch := omega) only [f_X10_statementTold, h57, h2, ↓bb a1, ↓bb q1, n_i8, n_i16, n_0, n_31, n_add, n_sub, n_mul, n_neg, n_div, n_rem, n_le_t, n_le_f, n_lt_t, n_lt_f, n_eq_t, n_eq_f, n_cl, n_gd, n_gdt, n_nz, Int.reduceToNat, Int.reduceAdd, Int.reduceSub, Int.reduceMul, Int.reduceNeg, Int.reduceLT, Int.reduceLE, Int.reduceEq, Int.reduceDiv, Int.reduceMod, Nat.reduceAdd, Nat.reduceMul, ↓reduceIte])
    unfold stmS
    rw [if_pos e1]
    by_cases e5 : bK D.1 = 5
    · rw [if_pos e5]; exact q3 e5
    · rw [if_neg e5]
      have q4 := q4 e5
      cases eS : kndS T n (dupD D.1 D.2.2) (nxW T n c) with
      | error x => rw [eS] at q4; exact q4
      | ok a =>
        rw [eS] at q4
        obtain ⟨v1, -⟩ := kndS_v eS (by omega) (by omega)
        exact ⟨⟨DV_K hV (by omega) v1.1 v1.2.1 v1.2.2.1 v1.2.2.2.1 v1.2.2.2.2, q4.1⟩, q4.2.2⟩
  | false =>
    have e1' : isWL T n c (WDl (wno 72)) = false := e1
    rw [e1'] at a1
    have a1 : f_X10_takes 72 s = some (Int32.ofInt 0, s1) := a1
    have c1 := (a3 e1').rc
    obtain ⟨s2, b1, b2, b3, b4⟩ := m_takes c1 hw1 (o := 77) (by unfold wce; omega)
    have hw2 := WDS_p hw1 b4
    have hD2 := RD_p hD1 b4
    cases e2 : isWL T n c (WDl 9) with
    | true =>
      have e2' : isWL T n c (WDl (wno 77)) = true := e2
      rw [e2'] at b1
      have b1 : f_X10_takes 77 s1 = some (Int32.ofInt 1, s2) := b1
      have hwb := wd_b (isWL_W e2) hcn.1 hcn.2
      obtain ⟨s6, q1, q2, q3, q4⟩ := m_manT (bg := frm T n c) hV hD2 (b2 e2') hw2
      refine fin s6 ?_ ((a4.tr b4).b.tr q2) (by simp (disch := omega) only [f_X10_statementTold, h57, h2, ↓bb a1, ↓bb b1, ↓bb q1, n_i8, n_i16, n_0, n_31, n_add, n_sub, n_mul, n_neg, n_div, n_rem, n_le_t, n_le_f, n_lt_t, n_lt_f, n_eq_t, n_eq_f, n_cl, n_gd, n_gdt, n_nz, Int.reduceToNat, Int.reduceAdd, Int.reduceSub, Int.reduceMul, Int.reduceNeg, Int.reduceLT, Int.reduceLE, Int.reduceEq, Int.reduceDiv, Int.reduceMod, Nat.reduceAdd, Nat.reduceMul, ↓reduceIte])
      unfold stmS
      rw [e1, if_neg (by decide), if_pos e2]
      by_cases e5 : bM D.1 = 8
      · rw [if_pos e5]; exact q3 e5
      · rw [if_neg e5]
        have q4 := q4 e5
        cases eS : manS T n D.1 D.2.1 D.2.2 (nxW T n c) with
        | error x => rw [eS] at q4; exact q4
        | ok a =>
          rw [eS] at q4
          obtain ⟨v1, -⟩ := manS_v eS hVb.1 (by omega) (by omega)
          exact ⟨⟨DV_M hV (by omega) v1.1 v1.2.1 v1.2.2.1 v1.2.2.2.1 v1.2.2.2.2, q4.1⟩, q4.2.2⟩
    | false =>
      have e2' : isWL T n c (WDl (wno 77)) = false := e2
      rw [e2'] at b1
      have b1 : f_X10_takes 77 s1 = some (Int32.ofInt 0, s2) := b1
      have c2 := (b3 e2').rc
      obtain ⟨s3, d1, d2, d3, d4⟩ := m_takes c2 hw2 (o := 81) (by unfold wce; omega)
      have hw3 := WDS_p hw2 d4
      have hD3 := RD_p hD2 d4
      cases e3 : isWL T n c (WDl 13) with
      | true =>
        have e3' : isWL T n c (WDl (wno 81)) = true := e3
        rw [e3'] at d1
        have d1 : f_X10_takes 81 s2 = some (Int32.ofInt 1, s3) := d1
        have hwb := wd_b (isWL_W e3) hcn.1 hcn.2
        obtain ⟨s6, q1, q2, q3, q4⟩ := m_fldT (bg := frm T n c) hV hD3 (d2 e3') hw3
        refine fin s6 ?_ (((a4.tr b4).tr d4).b.tr q2) (by simp (disch := omega) only [f_X10_statementTold, h57, h2, ↓bb a1, ↓bb b1, ↓bb d1, ↓bb q1, n_i8, n_i16, n_0, n_31, n_add, n_sub, n_mul, n_neg, n_div, n_rem, n_le_t, n_le_f, n_lt_t, n_lt_f, n_eq_t, n_eq_f, n_cl, n_gd, n_gdt, n_nz, Int.reduceToNat, Int.reduceAdd, Int.reduceSub, Int.reduceMul, Int.reduceNeg, Int.reduceLT, Int.reduceLE, Int.reduceEq, Int.reduceDiv, Int.reduceMod, Nat.reduceAdd, Nat.reduceMul, ↓reduceIte])
        unfold stmS
        rw [e1, if_neg (by decide), e2, if_neg (by decide), if_pos e3]
        by_cases e5 : bF D.1 = 6
        · rw [if_pos e5]; exact q3 e5
        · rw [if_neg e5]
          have q4 := q4 e5
          cases eS : fldS T n D.1 D.2.2 (nxW T n c) with
          | error x => rw [eS] at q4; exact q4
          | ok a =>
            rw [eS] at q4
            obtain ⟨v1, -⟩ := fldS_v eS (by omega) (by omega)
            exact ⟨⟨DV_F hV (by omega) v1.1 v1.2.1 v1.2.2, q4.1⟩, q4.2.2⟩
      | false =>
        have e3' : isWL T n c (WDl (wno 81)) = false := e3
        rw [e3'] at d1
        have d1 : f_X10_takes 81 s2 = some (Int32.ofInt 0, s3) := d1
        have c3 := (d3 e3').rc
        obtain ⟨s4, g1, g2, g3, g4⟩ := m_takes c3 hw3 (o := 83) (by unfold wce; omega)
        have hw4 := WDS_p hw3 g4
        have hD4 := RD_p hD3 g4
        cases e4 : isWL T n c (WDl 15) with
        | true =>
          have e4' : isWL T n c (WDl (wno 83)) = true := e4
          rw [e4'] at g1
          have g1 : f_X10_takes 83 s3 = some (Int32.ofInt 1, s4) := g1
          have hwb := wd_b (isWL_W e4) hcn.1 hcn.2
          obtain ⟨s6, q1, q2, q3, q4⟩ := m_harmT (bg := frm T n c) hV hD4 (g2 e4') hw4
          refine fin s6 ?_ ((((a4.tr b4).tr d4).tr g4).b.tr q2) (by simp (disch := omega) only [f_X10_statementTold, h57, h2, ↓bb a1, ↓bb b1, ↓bb d1, ↓bb g1, ↓bb q1, n_i8, n_i16, n_0, n_31, n_add, n_sub, n_mul, n_neg, n_div, n_rem, n_le_t, n_le_f, n_lt_t, n_lt_f, n_eq_t, n_eq_f, n_cl, n_gd, n_gdt, n_nz, Int.reduceToNat, Int.reduceAdd, Int.reduceSub, Int.reduceMul, Int.reduceNeg, Int.reduceLT, Int.reduceLE, Int.reduceEq, Int.reduceDiv, Int.reduceMod, Nat.reduceAdd, Nat.reduceMul, ↓reduceIte])
          unfold stmS
          rw [e1, if_neg (by decide), e2, if_neg (by decide), e3, if_neg (by decide), if_pos e4]
          by_cases e5 : bHm D.1 = -1
          · rw [if_pos e5]
            have q4 := q4 e5
            cases eS : sumT T n false 6 (nxW T n c) with
            | error x => rw [eS] at q4; exact q4
            | ok a =>
              rw [eS] at q4
              obtain ⟨l1, l2, l3⟩ := sumT_l eS (by omega) (by omega)
              have hty := y_sumT (T := T) (n := n) (m := false) 6 (nxW T n c)
              rw [eS] at hty
              have hn16 := hb.2.2.1
              exact ⟨⟨DV_H hV (by omega) hty, q4.1⟩, q4.2⟩
          · rw [if_neg e5]; exact q3 e5
        | false =>
          have e4' : isWL T n c (WDl (wno 83)) = false := e4
          rw [e4'] at g1
          have g1 : f_X10_takes 83 s3 = some (Int32.ofInt 0, s4) := g1
          have c4 := (g3 e4').rc
          obtain ⟨s5, k1, k2, k3, k4⟩ := m_takes c4 hw4 (o := 84) (by unfold wce; omega)
          have hw5 := WDS_p hw4 k4
          have hD5 := RD_p hD4 k4
          have P5 : RPf s s5 := (((a4.tr b4).tr d4).tr g4).tr k4
          cases e5 : isWL T n c (WDl 16) with
          | true =>
            have e5' : isWL T n c (WDl (wno 84)) = true := e5
            rw [e5'] at k1
            have k1 : f_X10_takes 84 s4 = some (Int32.ofInt 1, s5) := k1
            obtain ⟨v, s6, q1, q2, q3⟩ := m_set (T := T) (n := n) (r := .ok (nxW T n c)) ⟨k2 e5', hw5⟩ hV hD5 (j := 5) (hi := 99) (Or.inl ⟨rfl, rfl⟩)
            have ec0 : (Int32.ofInt 0).toNatClampNeg = 0 := rfl
            refine fin (uI s6 108 (5 - 5 : Int).toNat v) ?_ (P5.b.tr q2) (by simp (disch := omega) only [f_X10_statementTold, h57, h2, ↓bb a1, ↓bb b1, ↓bb d1, ↓bb g1, ↓bb k1, ↓bb q1, ec0, n_i8, n_i16, n_0, n_31, n_add, n_sub, n_mul, n_neg, n_div, n_rem, n_le_t, n_le_f, n_lt_t, n_lt_f, n_eq_t, n_eq_f, n_cl, n_gd, n_gdt, n_nz, Int.reduceToNat, Int.reduceAdd, Int.reduceSub, Int.reduceMul, Int.reduceNeg, Int.reduceLT, Int.reduceLE, Int.reduceEq, Int.reduceDiv, Int.reduceMod, Nat.reduceAdd, Nat.reduceMul, ↓reduceIte, ltd])
            unfold stmS
            rw [e1, if_neg (by decide), e2, if_neg (by decide), e3, if_neg (by decide), e4, if_neg (by decide), if_pos e5]
            exact q3
          | false =>
            have e5' : isWL T n c (WDl (wno 84)) = false := e5
            rw [e5'] at k1
            have k1 : f_X10_takes 84 s4 = some (Int32.ofInt 0, s5) := k1
            have c5 := (k3 e5').rc
            obtain ⟨s6, t1, t2, t3⟩ := g_asks (T := T) (n := n) (r := .ok c) ⟨c5, hw5⟩ (o := 85) (by unfold wce; omega)
            obtain ⟨v, s7, q1, q2, q3⟩ := m_set t3 hV (RD_p hD5 t2) (j := 6) (hi := 100) (Or.inr ⟨rfl, rfl⟩)
            have ec1 : (Int32.ofInt 1).toNatClampNeg = 1 := rfl
            refine fin (uI s7 108 (6 - 5 : Int).toNat v) ?_ ((P5.tr t2).b.tr q2) (by simp (disch := omega) only [f_X10_statementTold, h57, h2, ↓bb a1, ↓bb b1, ↓bb d1, ↓bb g1, ↓bb k1, ↓bb t1, ↓bb q1, ec1, n_i8, n_i16, n_0, n_31, n_add, n_sub, n_mul, n_neg, n_div, n_rem, n_le_t, n_le_f, n_lt_t, n_lt_f, n_eq_t, n_eq_f, n_cl, n_gd, n_gdt, n_nz, Int.reduceToNat, Int.reduceAdd, Int.reduceSub, Int.reduceMul, Int.reduceNeg, Int.reduceLT, Int.reduceLE, Int.reduceEq, Int.reduceDiv, Int.reduceMod, Nat.reduceAdd, Nat.reduceMul, ↓reduceIte, ltd])
            unfold stmS
            rw [e1, if_neg (by decide), e2, if_neg (by decide), e3, if_neg (by decide), e4, if_neg (by decide), e5, if_neg (by decide)]
            exact q3
/-- all statements -/
theorem m_tell_L (K : ST → Option (Int32 × ST)) : ∀ (k F : Nat) (st : Int) (D : DRF) (c : Cur) (s : ST), RC T n c s → WDS s → DV D.1 D.2.1 D.2.2 → RD D.1 D.2.1 D.2.2 s → s.1 65 57 = Int32.ofInt st → (k : Int) + st = 60 → 0 ≤ st → k + 2 < F → ∃ s', f_X10_board_L88 K F s = K s' ∧ BFs s s' ∧ RQ (telL T n k st D c) (fun a => (DV a.2.1 a.2.2.1 a.2.2.2 ∧ RD a.2.1 a.2.2.1 a.2.2.2 s') ∧ s'.1 65 57 = Int32.ofInt a.1 ∧ (1 ≤ st → 1 ≤ a.1 ∧ a.1 ≤ 60) ∧ s'.1 65 5 = Int32.ofInt 0 ∧ s'.1 65 6 = Int32.ofInt (-1)) (fun k p => RB k p s') := by
  have dead : ∀ (F : Nat) (k p : Int) (s : ST), RB k p s → f_X10_board_L88 K (F + 1) s = K s := by
    intro F k p s hB
    rw [f_X10_board_L88, if_neg hB.ne]
  intro k
  induction k with
  | zero =>
    intro F st D c s hc hw hV hD h57 hk st0 hF
    obtain ⟨F, rfl⟩ : ∃ F', F = F' + 1 + 1 := ⟨F - 2, by omega⟩
    obtain ⟨s1, q1, q2, q3⟩ := m_look hc
    have h5 := hc.b.1
    have hlb := lkV_b (f := frm T n c) q2.b.2.2.2 (by have := q2.b.2.2.1; omega)
    have h2 := q2.b.2.1
    have h571 := (q3.1 65 57 (by omega)).trans h57
    unfold telL
    by_cases e : frm T n c < n
    · rw [if_pos e]
      have hlk : ¬ lkV T n (frm T n c) = -1 := by
        unfold lkV
        rw [if_pos e]
        have := (q2.b.2.2.2 _ (by have := q2.b.2.2.1; omega) e).2
        omega
      obtain ⟨s2, f1, f2, f3⟩ := m_fail (k := 5) (p := frm T n c) q2.b.1 (by omega) (by omega)
      refine ⟨s2, ?_, (q3.rp.tr f3).b.s, f2⟩
      have e60 : st = 60 := by omega
      subst e60
      have est : f_X10_statementTold s1 = some s2 := by
        simp (disch := omega) only [f_X10_statementTold, h571, h2, ↓bb f1, n_i8, n_i16, n_0, n_31, n_add, n_sub, n_mul, n_neg, n_div, n_rem, n_le_t, n_le_f, n_lt_t, n_lt_f, n_eq_t, n_eq_f, n_cl, n_gd, n_gdt, n_nz, Int.reduceToNat, Int.reduceAdd, Int.reduceSub, Int.reduceMul, Int.reduceNeg, Int.reduceLT, Int.reduceLE, Int.reduceEq, Int.reduceDiv, Int.reduceMod, Nat.reduceAdd, Nat.reduceMul, ↓reduceIte]
      rw [← dead F 5 (frm T n c) s2 f2, f_X10_board_L88]
      simp (disch := omega) only [h5, ↓bb q1, ↓bb est, n_i8, n_i16, n_0, n_31, n_add, n_sub, n_mul, n_neg, n_div, n_rem, n_le_t, n_le_f, n_lt_t, n_lt_f, n_eq_t, n_eq_f, n_cl, n_gd, n_gdt, n_nz, Int.reduceToNat, Int.reduceAdd, Int.reduceSub, Int.reduceMul, Int.reduceNeg, Int.reduceLT, Int.reduceLE, Int.reduceEq, Int.reduceDiv, Int.reduceMod, Nat.reduceAdd, Nat.reduceMul, ↓reduceIte]
    · rw [if_neg e]
      have hlk : lkV T n (frm T n c) = -1 := by unfold lkV; rw [if_neg e]
      rw [hlk] at q1
      obtain ⟨dd, hx, -⟩ := q2
      refine ⟨s1, ?_, q3.rp.b.s, ⟨hV, RD_p hD q3.rp⟩, h571, fun _ => by show 1 ≤ st ∧ st ≤ 60; omega, hx.2.2.2.1, hx.2.2.2.2⟩
      simp (disch := omega) only [f_X10_board_L88, h5, ↓bb q1, n_i8, n_i16, n_0, n_31, n_add, n_sub, n_mul, n_neg, n_div, n_rem, n_le_t, n_le_f, n_lt_t, n_lt_f, n_eq_t, n_eq_f, n_cl, n_gd, n_gdt, n_nz, Int.reduceToNat, Int.reduceAdd, Int.reduceSub, Int.reduceMul, Int.reduceNeg, Int.reduceLT, Int.reduceLE, Int.reduceEq, Int.reduceDiv, Int.reduceMod, Nat.reduceAdd, Nat.reduceMul, ↓reduceIte]
  | succ k ih =>
    intro F st D c s hc hw hV hD h57 hk st0 hF
    obtain ⟨F, rfl⟩ : ∃ F', F = F' + 1 := ⟨F - 1, by omega⟩
    obtain ⟨s1, q1, q2, q3⟩ := m_look hc
    have h5 := hc.b.1
    have h571 := (q3.1 65 57 (by omega)).trans h57
    unfold telL
    by_cases e : frm T n c < n
    · rw [if_pos e]
      have hlb := lkV_b (f := frm T n c) q2.b.2.2.2 (by have := q2.b.2.2.1; omega)
      have hlk : ¬ lkV T n (frm T n c) = -1 := by
        unfold lkV
        rw [if_pos e]
        have := (q2.b.2.2.2 _ (by have := q2.b.2.2.1; omega) e).2
        omega
      obtain ⟨s2, t1, t2, t3, t4⟩ := m_stm q2 (WDS_p hw q3.rp) hV (RD_p hD q3.rp) h571 st0 (by omega)
      have eL : f_X10_board_L88 K (F + 1) s = f_X10_board_L88 K F s2 := by
        rw [f_X10_board_L88]
        simp (disch := omega) only [h5, ↓bb q1, ↓bb t1, n_i8, n_i16, n_0, n_31, n_add, n_sub, n_mul, n_neg, n_div, n_rem, n_le_t, n_le_f, n_lt_t, n_lt_f, n_eq_t, n_eq_f, n_cl, n_gd, n_gdt, n_nz, Int.reduceToNat, Int.reduceAdd, Int.reduceSub, Int.reduceMul, Int.reduceNeg, Int.reduceLT, Int.reduceLE, Int.reduceEq, Int.reduceDiv, Int.reduceMod, Nat.reduceAdd, Nat.reduceMul, ↓reduceIte]
      rw [eL]
      cases eS : stm1 T n D c with
      | error x =>
        rw [eS] at t2
        have t2 : RB x.1 x.2 s2 := t2
        obtain ⟨F, rfl⟩ : ∃ F', F = F' + 1 := ⟨F - 1, by omega⟩
        exact ⟨s2, dead F x.1 x.2 s2 t2, q3.rp.b.s.tr t4, t2⟩
      | ok a =>
        rw [eS] at t2
        obtain ⟨⟨u1, u2⟩, u3, u4⟩ := (t2 : (DV a.1.1 a.1.2.1 a.1.2.2 ∧ RD a.1.1 a.1.2.1 a.1.2.2 s2) ∧ RC T n a.2 s2 ∧ WDS s2)
        obtain ⟨s3, w1, w2, w3⟩ := ih F (st + 1) a.1 a.2 s2 u3 u4 u1 u2 t3 (by omega) (by omega) (by omega)
        refine ⟨s3, w1, (q3.rp.b.s.tr t4).tr w2, ?_⟩
        rw [eb_ok]
        exact RQ.mp w3 (fun b _ x => ⟨x.1, x.2.1, fun _ => x.2.2.1 (by omega), x.2.2.2⟩) (fun _ _ x => x)
    · rw [if_neg e]
      have hlk : lkV T n (frm T n c) = -1 := by unfold lkV; rw [if_neg e]
      rw [hlk] at q1
      obtain ⟨dd, hx, -⟩ := q2
      refine ⟨s1, ?_, q3.rp.b.s, ⟨hV, RD_p hD q3.rp⟩, h571, fun _ => by show 1 ≤ st ∧ st ≤ 60; omega, hx.2.2.2.1, hx.2.2.2.2⟩
      simp (disch := omega) only [f_X10_board_L88, h5, ↓bb q1, n_i8, n_i16, n_0, n_31, n_add, n_sub, n_mul, n_neg, n_div, n_rem, n_le_t, n_le_f, n_lt_t, n_lt_f, n_eq_t, n_eq_f, n_cl, n_gd, n_gdt, n_nz, Int.reduceToNat, Int.reduceAdd, Int.reduceSub, Int.reduceMul, Int.reduceNeg, Int.reduceLT, Int.reduceLE, Int.reduceEq, Int.reduceDiv, Int.reduceMod, Nat.reduceAdd, Nat.reduceMul, ↓reduceIte]
