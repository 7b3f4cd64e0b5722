/-! L3: the class reads a question -/
variable {T : Int → Int} {n : Int}
def AQh (s s' : ST) : Prop := (∀ o k : Nat, ¬ o = 3 → ¬ o = 34 → ¬ o = 35 → ¬ (o = 5 ∧ k = 2) → s'.1 o k = s.1 o k) ∧ s'.2.1 = s.2.1 ∧ ∀ j : Nat, ¬ j = 4 → s'.2.2 j = s.2.2 j
theorem AQh.tr {s t u : ST} (h1 : AQh s t) (h2 : AQh t u) : AQh s u := ⟨fun o k x y z w => (h2.1 o k x y z w).trans (h1.1 o k x y z w), h2.2.1.trans h1.2.1, fun j hj => (h2.2.2 j hj).trans (h1.2.2 j hj)⟩
theorem CPf.aq {s t : ST} (h : CPf 34 s t) : AQh s t := ⟨fun o k x y z _ => h.1 o k x (by omega) (by omega), by rw [h.2], fun j _ => by rw [h.2]⟩
theorem CFr.aq {s t : ST} (h : CFr s t) : AQh s t := ⟨fun o k x _ _ _ => h.1 o k x, by rw [h.2], fun j _ => by rw [h.2]⟩
/-- the end of a question -/
theorem c_j96 {c : Cur} {s : ST} (h : CC T n c s) {x : Int} (x0 : 33 ≤ x) (x1 : x ≤ 38) : ∃ s', f_X8_question_j96 (Int32.ofInt x) s = some (Int32.ofInt x, s') ∧ CFr s s' ∧ (frm T n c < n → CD 1 (frm T n c) s') ∧ (¬ frm T n c < n → s' = s) := by
  have hs := h.2.2.2.2.1
  have hsb := srt_b T n c
  by_cases e : frm T n c < n
  · have hs0 : ¬ srt T n c = 0 := fun x => absurd e (srt_0.mp x)
    obtain ⟨s1, f1, f2, f3⟩ := c_ff h
    refine ⟨s1, ?_, f3, fun _ => f2, fun y => absurd e y⟩
    simp (disch := omega) only [f_X8_question_j96, f_X8_question_j112, hs, ↓bb f1, n_i8, n_i16, n_0, n_31, n_add, n_sub, n_mul, n_neg, n_div, n_rem, n_le_t, n_le_f, n_lt_t, n_lt_f, n_eq_t, n_eq_f, n_cl, n_gd, n_gdt, n_nz, Int.reduceToNat, Int.reduceAdd, Int.reduceSub, Int.reduceMul, Int.reduceNeg, Int.reduceLT, Int.reduceLE, Int.reduceEq, Int.reduceDiv, Int.reduceMod, Nat.reduceAdd, Nat.reduceMul, ↓reduceIte]
  · have hs0 := srt_0.mpr e
    rw [hs0] at hs
    refine ⟨s, ?_, ⟨fun _ _ _ => rfl, rfl⟩, fun y => absurd y e, fun _ => rfl⟩
    simp (disch := omega) only [f_X8_question_j96, hs, n_i8, n_i16, n_0, n_31, n_add, n_sub, n_mul, n_neg, n_div, n_rem, n_le_t, n_le_f, n_lt_t, n_lt_f, n_eq_t, n_eq_f, n_cl, n_gd, n_gdt, n_nz, Int.reduceToNat, Int.reduceAdd, Int.reduceSub, Int.reduceMul, Int.reduceNeg, Int.reduceLT, Int.reduceLE, Int.reduceEq, Int.reduceDiv, Int.reduceMod, Nat.reduceAdd, Nat.reduceMul, ↓reduceIte]
theorem c_j96D {k p : Int} {s : ST} (h : CD k p s) {x : Int} (x0 : 33 ≤ x) (x1 : x ≤ 38) : f_X8_question_j96 (Int32.ofInt x) s = some (Int32.ofInt x, s) := by
  have hs := h.2.2.1
  have hf := c_ffD h
  simp (disch := omega) only [f_X8_question_j96, f_X8_question_j112, hs, ↓bb hf, n_i8, n_i16, n_0, n_31, n_add, n_sub, n_mul, n_neg, n_div, n_rem, n_le_t, n_le_f, n_lt_t, n_lt_f, n_eq_t, n_eq_f, n_cl, n_gd, n_gdt, n_nz, Int.reduceToNat, Int.reduceAdd, Int.reduceSub, Int.reduceMul, Int.reduceNeg, Int.reduceLT, Int.reduceLE, Int.reduceEq, Int.reduceDiv, Int.reduceMod, Nat.reduceAdd, Nat.reduceMul, ↓reduceIte]
theorem c_quest {s : ST} (hT : CT T n s) : ∃ v s', f_X8_question 34 s = some (v, s') ∧ AQh s s' ∧ RQ (askS T n) (fun a => v = Int32.ofInt (a.1 + 33) ∧ (s'.1 34 1 = Int32.ofInt (a.2.length : Int) ∧ ∀ i : Nat, i < a.2.length → s'.1 35 i = Int32.ofInt (toC (a.2.getD i 0))) ∧ C0k s') (fun k q => CD k q s') := by
  obtain ⟨s1, q1, r1, p1⟩ := c_open hT
  have hfq : FQ 34 := Or.inr (Or.inr rfl)
  have hn := hT.2.1
  have hf2 : ∀ o k : Nat, ¬ (o = 34 ∧ k = 1) → ¬ (o = 5 ∧ k = 2) → (uI (uR (uI s1 34 1 (Int32.ofInt 0)) 5 1 34) 5 2 (Int32.ofInt 1)).1 o k = s1.1 o k := fun o k y1 y2 => by
    rw [show (uI (uR (uI s1 34 1 (Int32.ofInt 0)) 5 1 34) 5 2 (Int32.ofInt 1)).1 o k = (uI (uI s1 34 1 (Int32.ofInt 0)) 5 2 (Int32.ofInt 1)).1 o k from rfl]
    (simp only [ua, ja, u_2, u_3, j_1, j_3]; (repeat' split) <;> first | rfl | (exfalso; omega))
  have hCS : CS true 34 [] (uI (uR (uI s1 34 1 (Int32.ofInt 0)) 5 1 34) 5 2 (Int32.ofInt 1)) := by
    refine ⟨rfl, u_eq _ _ _ _, ?_, fun i hi => by cases hi⟩
    rw [u_no (by omega)]
    show (uI s1 34 1 (Int32.ofInt 0)).1 34 1 = Int32.ofInt 0
    exact u_eq _ _ _ _
  have hB2 : AQh s1 (uI (uR (uI s1 34 1 (Int32.ofInt 0)) 5 1 34) 5 2 (Int32.ofInt 1)) := ⟨fun o k y1 y2 y3 y4 => hf2 o k (by omega) y4, rfl, fun j hj => by
    show (if j = slot 5 1 then some 34 else s1.2.2 j) = s1.2.2 j
    rw [if_neg (show ¬ j = slot 5 1 from hj)]⟩
  have est : f_X1_start 34 (Int32.ofInt 1) s1 = some (uI (uR (uI s1 34 1 (Int32.ofInt 0)) 5 1 34) 5 2 (Int32.ofInt 1)) := by
    have eb01 : b01 (Int32.ofInt 1) = true := by decide
    have hk2 : kk 34 2 = true := fq_k hfq
    unfold f_X1_start
    rw [hk2, eb01, n_gdt, n_gdt, ltd]
  generalize (uI (uR (uI s1 34 1 (Int32.ofInt 0)) 5 1 34) 5 2 (Int32.ofInt 1)) = s2 at *
  have hC2 : CC T n (0, false) s2 := CC_fr r1 (fun o k y => hf2 o k (by omega) (by omega))
  have P2 : AQh s s2 := p1.aq.tr hB2
  have hs := hC2.2.2.2.2.1
  have hsb := srt_b T n (0, false)
  have hwb := wix_b T n (0, false)
  unfold askS
  cases eW : isW T n (0, false) with
  | false =>
    rw [if_neg (fun x => by cases x.1)]
    have hs1 : ¬ srt T n (0, false) = 1 := fun x => by rw [srt_1.mp x] at eW; cases eW
    obtain ⟨s3, f1, f2, f3⟩ := c_ff hC2
    refine ⟨Int32.ofInt (-1), s3, ?_, P2.tr f3.aq, f2⟩
    simp (disch := omega) only [f_X8_question, f_X8_question_j38, f_X8_question_j69, f_X8_question_j96, f_X8_question_j112, ↓bb q1, ↓bb est, hs, ↓bb f1, n_i8, n_i16, n_0, n_31, n_add, n_sub, n_mul, n_neg, n_div, n_rem, n_le_t, n_le_f, n_lt_t, n_lt_f, n_eq_t, n_eq_f, n_cl, n_gd, n_gdt, n_nz, Int.reduceToNat, Int.reduceAdd, Int.reduceSub, Int.reduceMul, Int.reduceNeg, Int.reduceLT, Int.reduceLE, Int.reduceEq, Int.reduceDiv, Int.reduceMod, Nat.reduceAdd, Nat.reduceMul, ↓reduceIte]
  | true =>
    have hs1 := srt_1.mpr eW
    have h4 := hC2.2.2.2.2.2.1 hs1
    rw [hs1] at hs
    by_cases e : 33 ≤ wix T n (0, false)
    · rw [if_pos ⟨rfl, e, hwb.2⟩]
      have hwd := wd_b (c := (0, false)) eW (by show (0 : Int) ≤ 0; omega) hn.1
      have hwd1 : (0 : Int) < (nxW T n (0, false)).1 := hwd.1
      obtain ⟨s3, t1, t2, t3, t4⟩ := c_stepS hfq hC2 hCS
      rw [nx_W eW] at t2
      have P3 : AQh s s3 := P2.tr t4.aq
      have fin : ∀ (r : PR) (s4 : ST), OUT T n true 34 [] r s3 s4 → ∃ v s', f_X8_question_j96 (Int32.ofInt (wix T n (0, false))) s4 = some (v, s') ∧ AQh s s' ∧ RQ (eb r (fun a => if frm T n a.2 < n then .error (1, frm T n a.2) else .ok (wix T n (0, false) - 33, a.1))) (fun a => v = Int32.ofInt (a.1 + 33) ∧ (s'.1 34 1 = Int32.ofInt (a.2.length : Int) ∧ ∀ i : Nat, i < a.2.length → s'.1 35 i = Int32.ofInt (toC (a.2.getD i 0))) ∧ C0k s') (fun k q => CD k q s') := by
        intro r s4 ho
        have P4 : AQh s s4 := P3.tr ho.1.aq
        cases r with
        | error x =>
          obtain ⟨u1, u2⟩ := (ho.2 : CD x.1 x.2 s4 ∧ DS 34 s4)
          exact ⟨_, s4, c_j96D u1 e hwb.2, P4, u1⟩
        | ok a =>
          obtain ⟨u1, u2⟩ := (ho.2 : CC T n a.2 s4 ∧ CS true 34 ([] ++ a.1) s4)
          rw [List.nil_append] at u2
          obtain ⟨s5, g1, g2, g3, g4⟩ := c_j96 u1 e hwb.2
          refine ⟨_, s5, g1, P4.tr g2.aq, ?_⟩
          rw [eb_ok]
          by_cases e4 : frm T n a.2 < n
          · rw [if_pos e4]; exact g3 e4
          · rw [if_neg e4]
            have g4 := g4 e4
            subst g4
            refine ⟨?_, ⟨u2.2.2.1, u2.2.2.2⟩, ⟨u1.2.2.2.2.2.2.1, u1.2.2.2.2.2.2.2⟩⟩
            show Int32.ofInt (wix T n (0, false)) = Int32.ofInt (wix T n (0, false) - 33 + 33)
            rw [show wix T n (0, false) - 33 + 33 = wix T n (0, false) by omega]
      by_cases e2 : wix T n (0, false) ≤ 35
      · rw [if_pos e2]
        obtain ⟨s4, w1, w2⟩ := (c_testT (T := T) (n := n) hfq).1 (nxW T n (0, false)) [] s3 t2 t3 (by show (0 : Int) ≤ (nxW T n (0, false)).1; omega)
        obtain ⟨v, s', y1, y2⟩ := fin _ s4 w2
        refine ⟨v, s', ?_, y2⟩
        rw [← y1]
        simp (disch := omega) only [f_X8_question, f_X8_question_j38, ↓bb q1, ↓bb est, hs, h4, ↓bb t1, ↓bb w1, n_i8, n_i16, n_0, n_31, n_add, n_sub, n_mul, n_neg, n_div, n_rem, n_le_t, n_le_f, n_lt_t, n_lt_f, n_eq_t, n_eq_f, n_cl, n_gd, n_gdt, n_nz, Int.reduceToNat, Int.reduceAdd, Int.reduceSub, Int.reduceMul, Int.reduceNeg, Int.reduceLT, Int.reduceLE, Int.reduceEq, Int.reduceDiv, Int.reduceMod, Nat.reduceAdd, Nat.reduceMul, ↓reduceIte]
      · rw [if_neg e2]
        obtain ⟨s4, w1, w2⟩ := (c_sumT (T := T) (n := n) (m := true) hfq (d := 6) (o := 0) (by omega) (by omega)).1 (nxW T n (0, false)) [] s3 t2 t3 (by show (0 : Int) ≤ (nxW T n (0, false)).1; omega)
        obtain ⟨v, s', y1, y2⟩ := fin _ s4 w2
        refine ⟨v, s', ?_, y2⟩
        rw [← y1]
        simp (disch := omega) only [f_X8_question, f_X8_question_j38, f_X8_question_j69, ↓bb q1, ↓bb est, hs, h4, ↓bb t1, ↓bb w1, n_i8, n_i16, n_0, n_31, n_add, n_sub, n_mul, n_neg, n_div, n_rem, n_le_t, n_le_f, n_lt_t, n_lt_f, n_eq_t, n_eq_f, n_cl, n_gd, n_gdt, n_nz, Int.reduceToNat, Int.reduceAdd, Int.reduceSub, Int.reduceMul, Int.reduceNeg, Int.reduceLT, Int.reduceLE, Int.reduceEq, Int.reduceDiv, Int.reduceMod, Nat.reduceAdd, Nat.reduceMul, ↓reduceIte]
    · rw [if_neg (fun x => e x.2.1)]
      obtain ⟨s3, f1, f2, f3⟩ := c_ff hC2
      refine ⟨Int32.ofInt (wix T n (0, false)), s3, ?_, P2.tr f3.aq, f2⟩
      simp (disch := omega) only [f_X8_question, f_X8_question_j38, f_X8_question_j69, f_X8_question_j96, f_X8_question_j112, ↓bb q1, ↓bb est, hs, h4, ↓bb f1, n_i8, n_i16, n_0, n_31, n_add, n_sub, n_mul, n_neg, n_div, n_rem, n_le_t, n_le_f, n_lt_t, n_lt_f, n_eq_t, n_eq_f, n_cl, n_gd, n_gdt, n_nz, Int.reduceToNat, Int.reduceAdd, Int.reduceSub, Int.reduceMul, Int.reduceNeg, Int.reduceLT, Int.reduceLE, Int.reduceEq, Int.reduceDiv, Int.reduceMod, Nat.reduceAdd, Nat.reduceMul, ↓reduceIte]
