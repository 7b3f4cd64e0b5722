/-! L3: the class reads a board -/
variable {T : Int → Int} {n : Int} {p : Nat}
theorem stm_DV {D D' : DRF} {c c' : Cur} (hV : DV D.1 D.2.1 D.2.2) (c0 : 0 ≤ c.1) (cn : c.1 ≤ n) (n16 : n ≤ 1600) (h : stmS T n D c = .ok (D', c')) : DV D'.1 D'.2.1 D'.2.2 := by
  have hVb := hV.1.2.1
  unfold stmS at h
  by_cases e1 : isWL T n c (WDl 4) = true
  · rw [if_pos e1] at h
    have hwb := wd_b (isWL_W e1) c0 cn
    by_cases e : bK D.1 = 5
    · rw [if_pos e] at h; cases h
    · rw [if_neg e] at h
      obtain ⟨a, g1, g2⟩ := eb_v h
      cases g2
      obtain ⟨v1, -⟩ := kndS_v g1 (by omega) (by omega)
      exact DV_K hV (by omega) v1.1 v1.2.1 v1.2.2.1 v1.2.2.2.1 v1.2.2.2.2
  · rw [if_neg e1] at h
    by_cases e2 : isWL T n c (WDl 9) = true
    · rw [if_pos e2] at h
      have hwb := wd_b (isWL_W e2) c0 cn
      by_cases e : bM D.1 = 8
      · rw [if_pos e] at h; cases h
      · rw [if_neg e] at h
        obtain ⟨a, g1, g2⟩ := eb_v h
        cases g2
        obtain ⟨v1, -⟩ := manS_v g1 hVb.1 (by omega) (by omega)
        exact DV_M hV (by omega) v1.1 v1.2.1 v1.2.2.1 v1.2.2.2.1 v1.2.2.2.2
    · rw [if_neg e2] at h
      by_cases e3 : isWL T n c (WDl 13) = true
      · rw [if_pos e3] at h
        have hwb := wd_b (isWL_W e3) c0 cn
        by_cases e : bF D.1 = 6
        · rw [if_pos e] at h; cases h
        · rw [if_neg e] at h
          obtain ⟨a, g1, g2⟩ := eb_v h
          cases g2
          obtain ⟨v1, -⟩ := fldS_v g1 (by omega) (by omega)
          exact DV_F hV (by omega) v1.1 v1.2.1 v1.2.2
      · rw [if_neg e3] at h
        by_cases e4 : isWL T n c (WDl 15) = true
        · rw [if_pos e4] at h
          have hwb := wd_b (isWL_W e4) c0 cn
          by_cases e : bHm D.1 = -1
          · rw [if_pos e] at h
            obtain ⟨a, g1, g2⟩ := eb_v h
            cases g2
            obtain ⟨l1, l2, l3⟩ := sumT_l g1 (by omega) (by omega)
            have hty := y_sumT (T := T) (n := n) (m := false) 6 (nxW T n c)
            rw [g1] at hty
            exact DV_H hV (by omega) hty
          · rw [if_neg e] at h; cases h
        · rw [if_neg e4] at h
          by_cases e5 : isWL T n c (WDl 16) = true
          · rw [if_pos e5] at h
            obtain ⟨a, g1, g2⟩ := eb_v h
            cases g2
            have v := (numS_v g1).2.2.1
            exact DV_S hV (Or.inl ⟨rfl, v⟩)
          · rw [if_neg e5] at h
            obtain ⟨c1, -, h⟩ := eb_v h
            obtain ⟨a, g1, g2⟩ := eb_v h
            cases g2
            have v := (numS_v g1).2.2.1
            exact DV_S hV (Or.inr ⟨rfl, v⟩)
/-- no fault has been found -/
def C0k (s : ST) : Prop := s.1 3 5 = Int32.ofInt 0 ∧ s.1 3 6 = Int32.ofInt (-1)
theorem CC.z {c : Cur} {s : ST} (h : CC T n c s) : C0k s := ⟨h.2.2.2.2.2.2.1, h.2.2.2.2.2.2.2⟩
theorem c_deadL {K : Int32 → ST → Option (Int32 × ST)} {k q : Int} {s : ST} (h : CD k q s) (F : Nat) {x3 : Int} (x0 : 0 ≤ x3) (x61 : x3 ≤ 61) (x2 : Int32) : f_X8_tell_L15 K (F + 1) p x2 (Int32.ofInt x3) s = K x2 s := by
  obtain ⟨h1, h2, h3, h4, h5⟩ := h
  by_cases e : 60 < x3
  · simp (disch := omega) only [f_X8_tell_L15, n_i8, n_i16, n_0, n_31, n_add, n_sub, n_mul, n_neg, n_div, n_rem, n_le_t, n_le_f, n_lt_t, n_lt_f, n_eq_t, n_eq_f, n_cl, n_gd, n_gdt, n_nz, Int.reduceToNat, Int.reduceAdd, Int.reduceSub, Int.reduceMul, Int.reduceNeg, Int.reduceLT, Int.reduceLE, Int.reduceEq, Int.reduceDiv, Int.reduceMod, Nat.reduceAdd, Nat.reduceMul, ↓reduceIte]
  · simp (disch := omega) only [f_X8_tell_L15, h1, h3, n_i8, n_i16, n_0, n_31, n_add, n_sub, n_mul, n_neg, n_div, n_rem, n_le_t, n_le_f, n_lt_t, n_lt_f, n_eq_t, n_eq_f, n_cl, n_gd, n_gdt, n_nz, Int.reduceToNat, Int.reduceAdd, Int.reduceSub, Int.reduceMul, Int.reduceNeg, Int.reduceLT, Int.reduceLE, Int.reduceEq, Int.reduceDiv, Int.reduceMod, Nat.reduceAdd, Nat.reduceMul, ↓reduceIte]
theorem c_tell_L (hp : p = 6 ∨ p = 20) : ∀ (k F : Nat) (st : Int) (D : DRF) (c : Cur) (s : ST), CC T n c s → DV D.1 D.2.1 D.2.2 → CDf D.1 D.2.1 D.2.2 p s → (k : Int) + st = 60 → 1 ≤ st → k + 3 < F → ∃ v s', f_X8_tell_L15 f_X8_tell_j100 F p (Int32.ofInt st) (Int32.ofInt st) s = some (v, s') ∧ CBh p s s' ∧ RQ (telL T n k st D c) (fun a => v = Int32.ofInt a.1 ∧ CDf a.2.1 a.2.2.1 a.2.2.2 p s' ∧ C0k s') (fun k q => CD k q s') := by
  have j100 : ∀ (v : Int) (s : ST), 1 ≤ v → v ≤ 100 → f_X8_tell_j100 (Int32.ofInt v) s = some (Int32.ofInt v, s) := fun v s v0 v1 => by
    simp (disch := omega) only [f_X8_tell_j100, n_i8, n_i16, n_0, n_31, n_add, n_sub, n_mul, n_neg, n_div, n_rem, n_le_t, n_le_f, n_lt_t, n_lt_f, n_eq_t, n_eq_f, n_cl, n_gd, n_gdt, n_nz, Int.reduceToNat, Int.reduceAdd, Int.reduceSub, Int.reduceMul, Int.reduceNeg, Int.reduceLT, Int.reduceLE, Int.reduceEq, Int.reduceDiv, Int.reduceMod, Nat.reduceAdd, Nat.reduceMul, ↓reduceIte]
  intro k
  induction k with
  | zero =>
    intro F st D c s hc hV hD hk st1 hF
    obtain ⟨F, rfl⟩ : ∃ F', F = F' + 1 + 1 := ⟨F - 2, by omega⟩
    have e60 : st = 60 := by omega
    subst e60
    have hsort := hc.2.2.2.2.1
    have hsb := srt_b T n c
    have h35 := hc.2.2.2.2.2.2.1
    have h31 := hc.2.2.1
    unfold telL
    by_cases e : frm T n c < n
    · rw [if_pos e]
      have hs0 : ¬ srt T n c = 0 := fun x => absurd e (srt_0.mp x)
      obtain ⟨s1, q1, q2, q3⟩ := c_fail (k := 5) (p := frm T n c) h35 (by omega) (by omega)
      have hd := c_deadL (K := f_X8_tell_j100) (p := p) q2 F (x3 := 61) (by omega) (by omega) (Int32.ofInt 61)
      have hts := c_tSD q2 (Int32.ofInt 59)
      refine ⟨Int32.ofInt 61, s1, ?_, q3.h p, q2⟩
      rw [← j100 61 s1 (by omega) (by omega), ← hd, f_X8_tell_L15]
      simp (disch := omega) only [f_X8_tell_j82, hsort, h35, h31, ↓bb q1, ↓bb hts, n_i8, n_i16, n_0, n_31, n_add, n_sub, n_mul, n_neg, n_div, n_rem, n_le_t, n_le_f, n_lt_t, n_lt_f, n_eq_t, n_eq_f, n_cl, n_gd, n_gdt, n_nz, Int.reduceToNat, Int.reduceAdd, Int.reduceSub, Int.reduceMul, Int.reduceNeg, Int.reduceLT, Int.reduceLE, Int.reduceEq, Int.reduceDiv, Int.reduceMod, Nat.reduceAdd, Nat.reduceMul, ↓reduceIte]
    · rw [if_neg e]
      have hs0 := srt_0.mpr e
      rw [hs0] at hsort
      refine ⟨Int32.ofInt 60, s, ?_, CBh.rf s, rfl, hD, hc.z⟩
      rw [← j100 60 s (by omega) (by omega)]
      simp (disch := omega) only [f_X8_tell_L15, hsort, n_i8, n_i16, n_0, n_31, n_add, n_sub, n_mul, n_neg, n_div, n_rem, n_le_t, n_le_f, n_lt_t, n_lt_f, n_eq_t, n_eq_f, n_cl, n_gd, n_gdt, n_nz, Int.reduceToNat, Int.reduceAdd, Int.reduceSub, Int.reduceMul, Int.reduceNeg, Int.reduceLT, Int.reduceLE, Int.reduceEq, Int.reduceDiv, Int.reduceMod, Nat.reduceAdd, Nat.reduceMul, ↓reduceIte]
  | succ k ih =>
    intro F st D c s hc hV hD hk st1 hF
    obtain ⟨F, rfl⟩ : ∃ F', F = F' + 1 := ⟨F - 1, by omega⟩
    have hsort := hc.2.2.2.2.1
    have hsb := srt_b T n c
    have h35 := hc.2.2.2.2.2.2.1
    have hn := hc.nb
    unfold telL
    by_cases e : frm T n c < n
    · rw [if_pos e]
      have hs0 : ¬ srt T n c = 0 := fun x => absurd e (srt_0.mp x)
      obtain ⟨s1, q1, q2, q3⟩ := c_stm hp hc hV hD
      have hg : CG T n (cu (stmS T n D c)) s1 := by
        cases eS : stmS T n D c with
        | error x => rw [eS] at q3; exact q3
        | ok a => rw [eS] at q3; exact q3.2
      obtain ⟨s2, t1, t2, t3⟩ := k_tS hg (ch := 59) (by omega) (by omega) (by decide)
      have eL : f_X8_tell_L15 f_X8_tell_j100 (F + 1) p (Int32.ofInt st) (Int32.ofInt st) s = f_X8_tell_L15 f_X8_tell_j100 F p (Int32.ofInt (st + 1)) (Int32.ofInt (st + 1)) s2 := by
        rw [f_X8_tell_L15]
        simp (disch := omega) only [f_X8_tell_j82, hsort, h35, ↓bb q1, ↓bb t1, n_i8, n_i16, n_0, n_31, n_add, n_sub, n_mul, n_neg, n_div, n_rem, n_le_t, n_le_f, n_lt_t, n_lt_f, n_eq_t, n_eq_f, n_cl, n_gd, n_gdt, n_nz, Int.reduceToNat, Int.reduceAdd, Int.reduceSub, Int.reduceMul, Int.reduceNeg, Int.reduceLT, Int.reduceLE, Int.reduceEq, Int.reduceDiv, Int.reduceMod, Nat.reduceAdd, Nat.reduceMul, ↓reduceIte]
      rw [eL]
      obtain ⟨F, rfl⟩ : ∃ F', F = F' + 1 := ⟨F - 1, by omega⟩
      have dead : ∀ x : Int × Int, CD x.1 x.2 s2 → stm1 T n D c = .error x → ∃ v s', f_X8_tell_L15 f_X8_tell_j100 (F + 1) p (Int32.ofInt (st + 1)) (Int32.ofInt (st + 1)) s2 = some (v, s') ∧ CBh p s s' ∧ RQ (eb (stm1 T n D c) (fun a => telL T n k (st + 1) a.1 a.2)) (fun a => v = Int32.ofInt a.1 ∧ CDf a.2.1 a.2.2.1 a.2.2.2 p s' ∧ C0k s') (fun k q => CD k q s') := by
        intro x hB hx
        refine ⟨Int32.ofInt (st + 1), s2, ?_, q2.tr (t2.h p), by rw [hx]; exact hB⟩
        rw [c_deadL hB F (by omega) (by omega), j100 (st + 1) s2 (by omega) (by omega)]
      cases eS : stmS T n D c with
      | error x =>
        rw [eS] at t3
        exact dead x t3 (by unfold stm1; rw [eS]; rfl)
      | ok a =>
        rw [eS] at t3 q3
        have t3 : CG T n (tkS T n 59 a.2) s2 := t3
        cases e9 : tkS T n 59 a.2 with
        | error x =>
          rw [e9] at t3
          exact dead x t3 (by unfold stm1; rw [eS, eb_ok, e9]; rfl)
        | ok c' =>
          rw [e9] at t3
          have t3 : CC T n c' s2 := t3
          have e1 : stm1 T n D c = .ok (a.1, c') := by unfold stm1; rw [eS, eb_ok, e9]; rfl
          rw [e1, eb_ok]
          have hVa : DV a.1.1 a.1.2.1 a.1.2.2 := stm_DV hV hn.1 hn.2.1 hn.2.2 eS
          obtain ⟨v, s3, w1, w2, w3⟩ := ih (F + 1) (st + 1) a.1 c' s2 t3 hVa (CDf_fr q3.1 (fun o k x y => t2.1 o k (by omega))) (by omega) (by omega) (by omega)
          exact ⟨v, s3, w1, (q2.tr (t2.h p)).tr w2, w3⟩
    · rw [if_neg e]
      have hs0 := srt_0.mpr e
      rw [hs0] at hsort
      refine ⟨Int32.ofInt st, s, ?_, CBh.rf s, rfl, hD, hc.z⟩
      rw [← j100 st s (by omega) (by omega)]
      simp (disch := omega) only [f_X8_tell_L15, hsort, n_i8, n_i16, n_0, n_31, n_add, n_sub, n_mul, n_neg, n_div, n_rem, n_le_t, n_le_f, n_lt_t, n_lt_f, n_eq_t, n_eq_f, n_cl, n_gd, n_gdt, n_nz, Int.reduceToNat, Int.reduceAdd, Int.reduceSub, Int.reduceMul, Int.reduceNeg, Int.reduceLT, Int.reduceLE, Int.reduceEq, Int.reduceDiv, Int.reduceMod, Nat.reduceAdd, Nat.reduceMul, ↓reduceIte]
/-- the plan is emptied -/
theorem c_empty (hp : p = 6 ∨ p = 20) (s : ST) : ∃ s', f_X4_empty p s = some s' ∧ (s'.1 p 3 = Int32.ofInt 0 ∧ s'.1 p 8 = Int32.ofInt 0 ∧ s'.1 p 12 = Int32.ofInt 0 ∧ s'.1 p 17 = Int32.ofInt 0 ∧ s'.1 p 18 = Int32.ofInt 0 ∧ s'.1 p 19 = Int32.ofInt 0) ∧ (∀ k : Nat, k < 19 → s'.1 (p + 11) k = Int32.ofInt 0) ∧ CBp p s s' := by
  have k1 : ∀ {α : Type} {y : Option α}, gd (kk (p + 11) 13) y = y := by intro α y; rcases hp with rfl | rfl <;> rfl
  have k2 : ∀ {α : Type} {y : Option α}, gd (kr (p + 11)) y = y := by intro α y; rcases hp with rfl | rfl <;> rfl
  have k3 : (K0 (p + 11)).2 = 19 := by rcases hp with rfl | rfl <;> rfl
  have z : ∀ k : Nat, k = 0 ∨ k = 1 ∨ k = 3 ∨ k = 8 ∨ k = 12 ∨ k = 17 ∨ k = 18 ∨ k = 19 → (uI (uI (uI (uI (uI (uI (uI (uI s p 0 (Int32.ofInt 0)) p 1 (Int32.ofInt 0)) p 3 (Int32.ofInt 0)) p 8 (Int32.ofInt 0)) p 12 (Int32.ofInt 0)) p 17 (Int32.ofInt 0)) p 18 (Int32.ofInt 0)) p 19 (Int32.ofInt 0)).1 p k = Int32.ofInt 0 := by
    intro k hk
    rcases hk with rfl | rfl | rfl | rfl | rfl | rfl | rfl | rfl <;> simp (disch := omega) only [u_eq, u_nk]
  have fr : ∀ o k : Nat, ¬ o = p → (uI (uI (uI (uI (uI (uI (uI (uI s p 0 (Int32.ofInt 0)) p 1 (Int32.ofInt 0)) p 3 (Int32.ofInt 0)) p 8 (Int32.ofInt 0)) p 12 (Int32.ofInt 0)) p 17 (Int32.ofInt 0)) p 18 (Int32.ofInt 0)) p 19 (Int32.ofInt 0)).1 o k = s.1 o k := fun o k x => by (simp only [ua, ja, u_2, u_3, j_1, j_3]; (repeat' split) <;> first | rfl | (exfalso; omega))
  obtain ⟨s1, q1, q2, q3, q4⟩ := c_fill (a := p + 11) (N := 19) (x := Int32.ofInt 0) k1 k2 k3 (by omega) (uI (uI (uI (uI (uI (uI (uI (uI s p 0 (Int32.ofInt 0)) p 1 (Int32.ofInt 0)) p 3 (Int32.ofInt 0)) p 8 (Int32.ofInt 0)) p 12 (Int32.ofInt 0)) p 17 (Int32.ofInt 0)) p 18 (Int32.ofInt 0)) p 19 (Int32.ofInt 0))
  refine ⟨s1, ?_, ⟨?_, ?_, ?_, ?_, ?_, ?_⟩, q2, ⟨fun o k x y => (q3 o k (by omega)).trans (fr o k (by omega)), q4⟩⟩
  · simp (disch := omega) only [f_X4_empty, ↓bb q1, g_kk, g_k1, g_n1, g_k2, g_n2, g_k3, g_n3, g_k4, g_n4, g_k5, g_n5, g_k7, g_n7, g_k8, g_n8, g_k9, g_n9, g_k6, g_r3, g_r4, g_r5, g_r6, g_r7, g_r10, g_q0, g_q1, g_q2, p_kk, p_k1, p_n1, p_k2, p_n2, p_k3, p_n3, p_k4, p_n4, p_k5, p_n5, p_k6, p_n6, p_k7, p_n7, p_k8, p_n8, p_k9, p_n9, p_k10, p_n10, p_k11, p_n11, p_k13, p_n13, p_k12, p_r2, p_r4, p_r5, p_r6, p_r7, p_r9, p_r10, p_r11, p_r13, p_r14, p_r15, p_r16, p_h0, n_i8, n_i16, n_0, n_31, n_add, n_sub, n_mul, n_neg, n_div, n_rem, n_le_t, n_le_f, n_lt_t, n_lt_f, n_eq_t, n_eq_f, n_cl, n_gd, n_gdt, n_nz, Int.reduceToNat, Int.reduceAdd, Int.reduceSub, Int.reduceMul, Int.reduceNeg, Int.reduceLT, Int.reduceLE, Int.reduceEq, Int.reduceDiv, Int.reduceMod, Nat.reduceAdd, Nat.reduceMul, ↓reduceIte, ltd, bnd]
  · rw [q3 _ _ (by omega)]; exact z 3 (by omega)
  · rw [q3 _ _ (by omega)]; exact z 8 (by omega)
  · rw [q3 _ _ (by omega)]; exact z 12 (by omega)
  · rw [q3 _ _ (by omega)]; exact z 17 (by omega)
  · rw [q3 _ _ (by omega)]; exact z 18 (by omega)
  · rw [q3 _ _ (by omega)]; exact z 19 (by omega)
theorem c_size (hp : p = 6 ∨ p = 20) {c : Cur} {s : ST} (hc : CC T n c s) (hz : s.1 p 3 = Int32.ofInt 0 ∧ s.1 p 8 = Int32.ofInt 0 ∧ s.1 p 12 = Int32.ofInt 0 ∧ s.1 p 17 = Int32.ofInt 0 ∧ s.1 p 18 = Int32.ofInt 0 ∧ s.1 p 19 = Int32.ofInt 0) (hnm : ∀ k : Nat, k < 19 → s.1 (p + 11) k = Int32.ofInt 0) : ∃ s', f_X8_size p s = some s' ∧ CBp p s s' ∧ RQ (sizS T n c) (fun a => CDf a.1 G00 N00 p s' ∧ DV a.1 G00 N00 ∧ CC T n a.2 s') (fun k q => CD k q s') := by
  obtain ⟨s1, q1, p1, r1⟩ := k_tW (T := T) (n := n) (r := .ok c) hc (k := 0) (by omega)
  obtain ⟨v2, s2, q2, p2, r2⟩ := k_tN r1 (lo := 2) (hi := 5) (by omega) (by omega) (by omega) (by omega)
  have f3 : ∀ o k : Nat, ¬ (o = p ∧ k = 0) → (uI s2 p 0 v2).1 o k = s2.1 o k := fun o k x => by (simp only [ua, ja, u_2, u_3, j_1, j_3]; (repeat' split) <;> first | rfl | (exfalso; omega))
  obtain ⟨s4, q4, p4, r4⟩ := k_tW (CG_fr (CG_cu r2) (s' := uI s2 p 0 v2) (fun o k x => f3 o k (by omega))) (k := 1) (by omega)
  obtain ⟨v5, s5, q5, p5, r5⟩ := k_tN r4 (lo := 2) (hi := 5) (by omega) (by omega) (by omega) (by omega)
  have f6 : ∀ o k : Nat, ¬ (o = p ∧ k = 1) → (uI s5 p 1 v5).1 o k = s5.1 o k := fun o k x => by (simp only [ua, ja, u_2, u_3, j_1, j_3]; (repeat' split) <;> first | rfl | (exfalso; omega))
  obtain ⟨s7, q7, p7, r7⟩ := k_tW (CG_fr (CG_cu r5) (s' := uI s5 p 1 v5) (fun o k x => f6 o k (by omega))) (k := 2) (by omega)
  obtain ⟨v8, s8, q8, p8, r8⟩ := k_tN r7 (lo := 1) (hi := 2) (by omega) (by omega) (by omega) (by omega)
  have f9 : ∀ o k : Nat, ¬ (o = p + 1 ∧ k = 0) → (uI s8 (p + 1) 0 v8).1 o k = s8.1 o k := fun o k x => by (simp only [ua, ja, u_2, u_3, j_1, j_3]; (repeat' split) <;> first | rfl | (exfalso; omega))
  obtain ⟨s10, q10, p10, r10⟩ := k_tW (CG_fr (CG_cu r8) (s' := uI s8 (p + 1) 0 v8) (fun o k x => f9 o k (by omega))) (k := 3) (by omega)
  obtain ⟨v11, s11, q11, p11, r11⟩ := k_tN r10 (lo := 1) (hi := 2) (by omega) (by omega) (by omega) (by omega)
  have f12 : ∀ o k : Nat, ¬ (o = p + 1 ∧ k = 1) → (uI s11 (p + 1) 1 v11).1 o k = s11.1 o k := fun o k x => by (simp only [ua, ja, u_2, u_3, j_1, j_3]; (repeat' split) <;> first | rfl | (exfalso; omega))
  have q1 : f_X5_takeWord (Int32.ofInt 0) s = some s1 := q1
  have q4 : f_X5_takeWord (Int32.ofInt 1) (uI s2 p 0 v2) = some s4 := q4
  have q7 : f_X5_takeWord (Int32.ofInt 2) (uI s5 p 1 v5) = some s7 := q7
  have q10 : f_X5_takeWord (Int32.ofInt 3) (uI s8 (p + 1) 0 v8) = some s10 := q10
  have ec0 : (Int32.ofInt 0).toNatClampNeg = 0 := rfl
  have ec1 : (Int32.ofInt 1).toNatClampNeg = 1 := rfl
  have FA : ∀ o k : Nat, ¬ o = 3 → ¬ (o = p ∧ k < 2) → ¬ (o = p + 1) → (uI s11 (p + 1) 1 v11).1 o k = s.1 o k := fun o k x y z => by
    rw [f12 o k (by omega), p11.1 o k x, p10.1 o k x, f9 o k (by omega), p8.1 o k x, p7.1 o k x, f6 o k (by omega), p5.1 o k x, p4.1 o k x, f3 o k (by omega), p2.1 o k x, p1.1 o k x]
  have FL : (uI s11 (p + 1) 1 v11).2 = s.2 := by
    show s11.2 = s.2
    rw [p11.2, p10.2]
    show s8.2 = s.2
    rw [p8.2, p7.2]
    show s5.2 = s.2
    rw [p5.2, p4.2]
    show s2.2 = s.2
    rw [p2.2, p1.2]
  refine ⟨uI s11 (p + 1) 1 v11, ?_, ⟨fun o k x y => FA o k x (by omega) (by omega), FL⟩, ?_⟩
  · simp (disch := omega) only [f_X8_size, ↓bb q1, ↓bb q2, ↓bb q4, ↓bb q5, ↓bb q7, ↓bb q8, ↓bb q10, ↓bb q11, ec0, ec1, g_kk, g_k1, g_n1, g_k2, g_n2, g_k3, g_n3, g_k4, g_n4, g_k5, g_n5, g_k7, g_n7, g_k8, g_n8, g_k9, g_n9, g_k6, g_r3, g_r4, g_r5, g_r6, g_r7, g_r10, g_q0, g_q1, g_q2, p_kk, p_k1, p_n1, p_k2, p_n2, p_k3, p_n3, p_k4, p_n4, p_k5, p_n5, p_k6, p_n6, p_k7, p_n7, p_k8, p_n8, p_k9, p_n9, p_k10, p_n10, p_k11, p_n11, p_k13, p_n13, p_k12, p_r2, p_r4, p_r5, p_r6, p_r7, p_r9, p_r10, p_r11, p_r13, p_r14, p_r15, p_r16, p_h0, n_i8, n_i16, n_0, n_31, n_add, n_sub, n_mul, n_neg, n_div, n_rem, n_le_t, n_le_f, n_lt_t, n_lt_f, n_eq_t, n_eq_f, n_cl, n_gd, n_gdt, n_nz, Int.reduceToNat, Int.reduceAdd, Int.reduceSub, Int.reduceMul, Int.reduceNeg, Int.reduceLT, Int.reduceLE, Int.reduceEq, Int.reduceDiv, Int.reduceMod, Nat.reduceAdd, Nat.reduceMul, ↓reduceIte, u_eq, u_no, u_nk, u_ek, u_2, u_3, j_1, j_3, j_eq, j_no, j_nk, ltd, bnd]
  · have bad : ∀ x : Int × Int, CD x.1 x.2 s11 → sizS T n c = .error x → RQ (sizS T n c) (fun a => CDf a.1 G00 N00 p (uI s11 (p + 1) 1 v11) ∧ DV a.1 G00 N00 ∧ CC T n a.2 (uI s11 (p + 1) 1 v11)) (fun k q => CD k q (uI s11 (p + 1) 1 v11)) := by
      intro x hB hx
      rw [hx]
      exact CD_fr hB (fun k => f12 3 k (by omega))
    simp only [eb_ok] at r2 r5 r8 r11
    cases e1 : tkW T n 0 c with
    | error x => exact bad x (by simp only [e1, cu, eb_er] at r11; exact r11.2) (by unfold sizS; rw [e1]; rfl)
    | ok c1 =>
    cases e2 : numS T n c1 2 5 with
    | error x => exact bad x (by simp only [e1, e2, cu, eb_ok, eb_er] at r11; exact r11.2) (by unfold sizS; rw [e1, eb_ok, e2]; rfl)
    | ok a2 =>
    cases e3 : tkW T n 1 a2.2 with
    | error x => exact bad x (by simp only [e1, e2, e3, cu, eb_ok, eb_er] at r11; exact r11.2) (by unfold sizS; rw [e1, eb_ok, e2, eb_ok, e3]; rfl)
    | ok c3 =>
    cases e4 : numS T n c3 2 5 with
    | error x => exact bad x (by simp only [e1, e2, e3, e4, cu, eb_ok, eb_er] at r11; exact r11.2) (by unfold sizS; rw [e1, eb_ok, e2, eb_ok, e3, eb_ok, e4]; rfl)
    | ok a4 =>
    cases e5 : tkW T n 2 a4.2 with
    | error x => exact bad x (by simp only [e1, e2, e3, e4, e5, cu, eb_ok, eb_er] at r11; exact r11.2) (by unfold sizS; rw [e1, eb_ok, e2, eb_ok, e3, eb_ok, e4, eb_ok, e5]; rfl)
    | ok c5 =>
    cases e6 : numS T n c5 1 2 with
    | error x => exact bad x (by simp only [e1, e2, e3, e4, e5, e6, cu, eb_ok, eb_er] at r11; exact r11.2) (by unfold sizS; rw [e1, eb_ok, e2, eb_ok, e3, eb_ok, e4, eb_ok, e5, eb_ok, e6]; rfl)
    | ok a6 =>
    cases e7 : tkW T n 3 a6.2 with
    | error x => exact bad x (by simp only [e1, e2, e3, e4, e5, e6, e7, cu, eb_ok, eb_er] at r11; exact r11.2) (by unfold sizS; rw [e1, eb_ok, e2, eb_ok, e3, eb_ok, e4, eb_ok, e5, eb_ok, e6, eb_ok, e7]; rfl)
    | ok c7 =>
    cases e8 : numS T n c7 1 2 with
    | error x => exact bad x (by simp only [e1, e2, e3, e4, e5, e6, e7, e8, cu, eb_ok, eb_er] at r11; exact r11.2) (by unfold sizS; rw [e1, eb_ok, e2, eb_ok, e3, eb_ok, e4, eb_ok, e5, eb_ok, e6, eb_ok, e7, eb_ok, e8]; rfl)
    | ok a8 =>
    simp only [e1, e2, e3, e4, e5, e6, e7, e8, cu, eb_ok] at r2 r5 r8 r11
    have hS : sizS T n c = .ok (bz a2.1 a4.1 a6.1 a8.1, a8.2) := by unfold sizS; rw [e1, eb_ok, e2, eb_ok, e3, eb_ok, e4, eb_ok, e5, eb_ok, e6, eb_ok, e7, eb_ok, e8]; rfl
    rw [hS]
    have w2 : v2 = Int32.ofInt a2.1 := r2.1
    have w4 : v5 = Int32.ofInt a4.1 := r5.1
    have w6 : v8 = Int32.ofInt a6.1 := r8.1
    have w8 : v11 = Int32.ofInt a8.1 := r11.1
    have hV := bz_DV (numS_v e2).2.2.1 (numS_v e4).2.2.1 (numS_v e6).2.2.1 (numS_v e8).2.2.1
    obtain ⟨z3, z8, z12, z17, z18, z19⟩ := hz
    refine ⟨⟨⟨⟨?_, ?_, ?_, ?_, ?_, ?_, ?_⟩, fun k k0 k1 => absurd k1 (by show ¬ k < 0; omega), fun k k0 k1 => absurd k1 (by show ¬ k < 0; omega), fun k k0 k1 => absurd k1 (by show ¬ k < 0; omega), Or.inl ⟨rfl, ?_⟩⟩, ⟨?_, ?_⟩, fun k k0 k1 => absurd k1 (by show ¬ k < 0; omega), fun k k0 k1 => absurd k1 (by show ¬ k < 0; omega), fun j j0 j1 => ?_⟩, hV, CC_fr r11.2 (fun o k x => f12 o k (by omega))⟩
    · rw [f12 _ _ (by omega), p11.1 _ _ (by omega), p10.1 _ _ (by omega), f9 _ _ (by omega), p8.1 _ _ (by omega), p7.1 _ _ (by omega), f6 _ _ (by omega), p5.1 _ _ (by omega), p4.1 _ _ (by omega), u_eq]
      exact w2
    · rw [f12 _ _ (by omega), p11.1 _ _ (by omega), p10.1 _ _ (by omega), f9 _ _ (by omega), p8.1 _ _ (by omega), p7.1 _ _ (by omega), u_eq]
      exact w4
    · exact (FA _ _ (by omega) (by omega) (by omega)).trans z3
    · exact (FA _ _ (by omega) (by omega) (by omega)).trans z8
    · exact (FA _ _ (by omega) (by omega) (by omega)).trans z12
    · exact (FA _ _ (by omega) (by omega) (by omega)).trans z18
    · exact (FA _ _ (by omega) (by omega) (by omega)).trans z19
    · exact (FA _ _ (by omega) (by omega) (by omega)).trans z17
    · rw [f12 _ _ (by omega), p11.1 _ _ (by omega), p10.1 _ _ (by omega), u_eq]
      exact w6
    · rw [u_eq]
      exact w8
    · have hj : nsl (bz a2.1 a4.1 a6.1 a8.1) N00 j = 0 := by
        unfold nsl
        have a2' : bK (bz a2.1 a4.1 a6.1 a8.1) = 0 := rfl
        have a3' : bM (bz a2.1 a4.1 a6.1 a8.1) = 0 := rfl
        have a4' : bF (bz a2.1 a4.1 a6.1 a8.1) = 0 := rfl
        rw [a2', a3', a4']
        (repeat' split) <;> first | rfl | (exfalso; omega)
      rw [hj]
      exact (FA _ _ (by omega) (by omega) (by omega)).trans (hnm j.toNat (by omega))
theorem c_tellB (hp : p = 6 ∨ p = 20) {s : ST} (h : CT T n s) : ∃ v s', f_X8_tell p s = some (v, s') ∧ CBh p s s' ∧ RQ (brdS T n) (fun a => v = Int32.ofInt a.1 ∧ CDf a.2.1 a.2.2.1 a.2.2.2 p s' ∧ C0k s') (fun k q => CD k q s') := by
  obtain ⟨s1, q1, z1, z2, p1⟩ := c_empty hp s
  obtain ⟨s2, q2, r2, p2⟩ := c_open (CT_fr h (p1.1 1 1 (by omega) (by omega)) (fun k => p1.1 2 k (by omega) (by omega)))
  have g2 : ∀ o k : Nat, ¬ o = 3 → s2.1 o k = s1.1 o k := fun o k x => p2.1 o k x
  have e0 : f_X8_tell p s = f_X8_tell_L15 f_X8_tell_j100 fuel p (Int32.ofInt 0) (Int32.ofInt 0) s2 := by
    simp (disch := omega) only [f_X8_tell, ↓bb q1, ↓bb q2, g_kk, g_k1, g_n1, g_k2, g_n2, g_k3, g_n3, g_k4, g_n4, g_k5, g_n5, g_k7, g_n7, g_k8, g_n8, g_k9, g_n9, g_k6, g_r3, g_r4, g_r5, g_r6, g_r7, g_r10, g_q0, g_q1, g_q2, p_kk, p_k1, p_n1, p_k2, p_n2, p_k3, p_n3, p_k4, p_n4, p_k5, p_n5, p_k6, p_n6, p_k7, p_n7, p_k8, p_n8, p_k9, p_n9, p_k10, p_n10, p_k11, p_n11, p_k13, p_n13, p_k12, p_r2, p_r4, p_r5, p_r6, p_r7, p_r9, p_r10, p_r11, p_r13, p_r14, p_r15, p_r16, p_h0, n_i8, n_i16, n_0, n_31, n_add, n_sub, n_mul, n_neg, n_div, n_rem, n_le_t, n_le_f, n_lt_t, n_lt_f, n_eq_t, n_eq_f, n_cl, n_gd, n_gdt, n_nz, Int.reduceToNat, Int.reduceAdd, Int.reduceSub, Int.reduceMul, Int.reduceNeg, Int.reduceLT, Int.reduceLE, Int.reduceEq, Int.reduceDiv, Int.reduceMod, Nat.reduceAdd, Nat.reduceMul, ↓reduceIte]
  rw [e0]
  obtain ⟨F, hF⟩ : ∃ F, fuel = F + 1 + 1 := ⟨99998, rfl⟩
  have hFv : F = 99998 := by unfold fuel at hF; omega
  rw [hF]
  have hsort := r2.2.2.2.2.1
  have hsb := srt_b T n (0, false)
  have h35 := r2.2.2.2.2.2.2.1
  unfold brdS
  by_cases e : frm T n (0, false) < n
  · have hs0 : ¬ srt T n (0, false) = 0 := fun x => absurd e (srt_0.mp x)
    obtain ⟨s3, q3, p3, r3⟩ := c_size hp r2 ⟨(g2 _ _ (by omega)).trans z1.1, (g2 _ _ (by omega)).trans z1.2.1, (g2 _ _ (by omega)).trans z1.2.2.1, (g2 _ _ (by omega)).trans z1.2.2.2.1, (g2 _ _ (by omega)).trans z1.2.2.2.2.1, (g2 _ _ (by omega)).trans z1.2.2.2.2.2⟩ (fun k hk => (g2 _ _ (by omega)).trans (z2 k hk))
    have hg : CG T n (cu (sizS T n (0, false))) s3 := by
      cases eS : sizS T n (0, false) with
      | error x => rw [eS] at r3; exact r3
      | ok a => rw [eS] at r3; exact r3.2.2
    obtain ⟨s4, t1, t2, t3⟩ := k_tS hg (ch := 59) (by omega) (by omega) (by decide)
    have P4 : CBh p s s4 := ((p1.tr (p2.bp p)).tr (p3.tr (t2.bp p))).h
    have eL : f_X8_tell_L15 f_X8_tell_j100 (F + 1 + 1) p (Int32.ofInt 0) (Int32.ofInt 0) s2 = f_X8_tell_L15 f_X8_tell_j100 (F + 1) p (Int32.ofInt 1) (Int32.ofInt 1) s4 := by
      rw [f_X8_tell_L15]
      simp (disch := omega) only [f_X8_tell_j82, hsort, h35, ↓bb q3, ↓bb t1, n_i8, n_i16, n_0, n_31, n_add, n_sub, n_mul, n_neg, n_div, n_rem, n_le_t, n_le_f, n_lt_t, n_lt_f, n_eq_t, n_eq_f, n_cl, n_gd, n_gdt, n_nz, Int.reduceToNat, Int.reduceAdd, Int.reduceSub, Int.reduceMul, Int.reduceNeg, Int.reduceLT, Int.reduceLE, Int.reduceEq, Int.reduceDiv, Int.reduceMod, Nat.reduceAdd, Nat.reduceMul, ↓reduceIte]
    rw [eL]
    have dead : ∀ x : Int × Int, CD x.1 x.2 s4 → ∃ v s', f_X8_tell_L15 f_X8_tell_j100 (F + 1) p (Int32.ofInt 1) (Int32.ofInt 1) s4 = some (v, s') ∧ CBh p s s' ∧ CD x.1 x.2 s' := by
      intro x hB
      refine ⟨Int32.ofInt 1, s4, ?_, P4, hB⟩
      rw [c_deadL hB F (by omega) (by omega)]
      simp (disch := omega) only [f_X8_tell_j100, n_i8, n_i16, n_0, n_31, n_add, n_sub, n_mul, n_neg, n_div, n_rem, n_le_t, n_le_f, n_lt_t, n_lt_f, n_eq_t, n_eq_f, n_cl, n_gd, n_gdt, n_nz, Int.reduceToNat, Int.reduceAdd, Int.reduceSub, Int.reduceMul, Int.reduceNeg, Int.reduceLT, Int.reduceLE, Int.reduceEq, Int.reduceDiv, Int.reduceMod, Nat.reduceAdd, Nat.reduceMul, ↓reduceIte]
    cases eS : sizS T n (0, false) with
    | error x => rw [eS] at t3; exact dead x t3
    | ok a =>
      rw [eS] at t3 r3
      have t3 : CG T n (tkS T n 59 a.2) s4 := t3
      rw [eb_ok]
      cases e9 : tkS T n 59 a.2 with
      | error x => rw [e9] at t3; exact dead x t3
      | ok c' =>
        rw [e9] at t3
        have t3 : CC T n c' s4 := t3
        rw [eb_ok]
        obtain ⟨v, s5, w1, w2, w3⟩ := c_tell_L hp 59 (F + 1) 1 (a.1, G00, N00) c' s4 t3 r3.2.1 (CDf_fr r3.1 (fun o k x y => t2.1 o k (by omega))) (by omega) (by omega) (by omega)
        exact ⟨v, s5, w1, P4.tr w2, w3⟩
  · have hs0 := srt_0.mpr e
    rw [hs0] at hsort
    obtain ⟨s3, f1, f2, f3⟩ := c_ff r2
    have hne : isWL T n (0, false) (WDl 0) = false := isWL_f (by
      cases x : isW T n (0, false) with
      | false => rfl
      | true => have := srt_1.mpr x; omega)
    refine ⟨Int32.ofInt 0, s3, ?_, (p1.tr ((p2.tr f3).bp p)).h, ?_⟩
    · simp (disch := omega) only [f_X8_tell_L15, f_X8_tell_j100, hsort, ↓bb f1, n_i8, n_i16, n_0, n_31, n_add, n_sub, n_mul, n_neg, n_div, n_rem, n_le_t, n_le_f, n_lt_t, n_lt_f, n_eq_t, n_eq_f, n_cl, n_gd, n_gdt, n_nz, Int.reduceToNat, Int.reduceAdd, Int.reduceSub, Int.reduceMul, Int.reduceNeg, Int.reduceLT, Int.reduceLE, Int.reduceEq, Int.reduceDiv, Int.reduceMod, Nat.reduceAdd, Nat.reduceMul, ↓reduceIte]
    · unfold sizS tkW
      rw [hne]
      exact f2
