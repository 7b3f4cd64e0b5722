/-! L3: the class reads STATEMENTS to the end -/
variable {T : Int → Int} {n : Int} {B : Brd} {G : Gam} {N : Int → Int → List Int} {p : Nat}
def CBh (p : Nat) (s s' : ST) : Prop := (∀ o k : Nat, ¬ o = 3 → ¬ (p ≤ o ∧ o ≤ p + 13) → ¬ (o = 5 ∧ k = 2) → s'.1 o k = s.1 o k) ∧ s'.2.1 = s.2.1 ∧ ∀ j : Nat, ¬ j = 4 → s'.2.2 j = s.2.2 j
theorem CBh.rf (s : ST) : CBh p s s := ⟨fun _ _ _ _ _ => rfl, rfl, fun _ _ => rfl⟩
theorem CBh.tr {s t u : ST} (h1 : CBh p s t) (h2 : CBh p t u) : CBh p s u := ⟨fun o k x y z => (h2.1 o k x y z).trans (h1.1 o k x y z), h2.2.1.trans h1.2.1, fun j x => (h2.2.2 j x).trans (h1.2.2 j x)⟩
theorem CBp.h {s t : ST} (h : CBp p s t) : CBh p s t := ⟨fun o k x y _ => h.1 o k x y, by rw [h.2], fun _ _ => by rw [h.2]⟩
theorem CFr.h {s t : ST} (h : CFr s t) (p : Nat) : CBh p s t := (h.bp p).h
theorem CDf_H {l : List Int} {s s' : ST} (h : CDf B G N p s) (hl : (l.length : Int) ≤ 1600) (hf : ∀ a k : Nat, p ≤ a → a ≤ p + 13 → ¬ (a = p ∧ k = 17) → ¬ (a = p + 12 ∧ k = 1) → ¬ a = p + 13 → s'.1 a k = s.1 a k) (c1 : s'.1 p 17 = Int32.ofInt 1) (c2 : s'.1 (p + 12) 1 = Int32.ofInt (l.length : Int)) (c3 : ∀ i : Nat, i < l.length → s'.1 (p + 13) i = Int32.ofInt (toC (l.getD i 0))) : CDf (setH B l) G N p s' := by
  obtain ⟨n1, n2⟩ := setH_n (B := B) (l := l)
  have z : ∀ (i : Nat) (j : Int), ¬ i = 11 → ¬ (i = 0 ∧ j = 7) → setH B l i j = B i j := fun i j h1 h2 => setH_o h1 h2
  have zK : bK (setH B l) = bK B := z 0 2 (by omega) (by omega)
  have zM : bM (setH B l) = bM B := z 0 3 (by omega) (by omega)
  have zF : bF (setH B l) = bF B := z 0 4 (by omega) (by omega)
  obtain ⟨⟨⟨a1, a2, a3, a4, a5, a6, a7⟩, b1, b2, b3, b4⟩, ⟨d1, d2⟩, d3, d4, d5⟩ := h
  have g : ∀ a k : Nat, p ≤ a → a ≤ p + 11 → ¬ (a = p ∧ k = 17) → s'.1 a k = s.1 a k := fun a k x y w => hf a k x (by omega) w (by omega) (by omega)
  refine ⟨⟨⟨(g _ _ (by omega) (by omega) (by omega)).trans a1, (g _ _ (by omega) (by omega) (by omega)).trans a2, by rw [zK]; exact (g _ _ (by omega) (by omega) (by omega)).trans a3, by rw [zM]; exact (g _ _ (by omega) (by omega) (by omega)).trans a4, by rw [zF]; exact (g _ _ (by omega) (by omega) (by omega)).trans a5, (g _ _ (by omega) (by omega) (by omega)).trans a6, (g _ _ (by omega) (by omega) (by omega)).trans a7⟩, fun k k0 k1 => ?_, fun k k0 k1 => ?_, fun k k0 k1 => ?_, Or.inr ⟨by rw [n1]; omega, by rw [n1]; exact hl, c1, by rw [n1]; exact c2, fun i i0 i1 => ?_⟩⟩, ⟨(g _ _ (by omega) (by omega) (by omega)).trans d1, (g _ _ (by omega) (by omega) (by omega)).trans d2⟩, fun m m0 m1 => ?_, fun f f0 f1 => ?_, fun j j0 j1 => ?_⟩
  · rw [zK] at k1
    obtain ⟨x1, x2, x3, x4⟩ := b1 k k0 k1
    exact ⟨(g _ _ (by omega) (by omega) (by omega)).trans x1, (g _ _ (by omega) (by omega) (by omega)).trans x2, (g _ _ (by omega) (by omega) (by omega)).trans x3, (g _ _ (by omega) (by omega) (by omega)).trans x4⟩
  · rw [zM] at k1
    obtain ⟨x1, x2⟩ := b2 k k0 k1
    exact ⟨(g _ _ (by omega) (by omega) (by omega)).trans x1, (g _ _ (by omega) (by omega) (by omega)).trans x2⟩
  · rw [zF] at k1
    exact (g _ _ (by omega) (by omega) (by omega)).trans (b3 k k0 k1)
  · rw [n1] at i1
    rw [n2]
    exact c3 i.toNat (by omega)
  · rw [zM] at m1
    exact (g _ _ (by omega) (by omega) (by omega)).trans (d3 m m0 m1)
  · rw [zF] at f1
    exact (g _ _ (by omega) (by omega) (by omega)).trans (d4 f f0 f1)
  · have : nsl (setH B l) N j = nsl B N j := by unfold nsl; rw [zK, zM, zF]
    rw [this]
    exact (g _ _ (by omega) (by omega) (by omega)).trans (d5 j j0 j1)
theorem CDf_S {j v : Int} {s s' : ST} (h : CDf B G N p s) (hj : j = 5 ∨ j = 6) (hf : ∀ a k : Nat, p ≤ a → a ≤ p + 13 → ¬ (a = p ∧ k = (13 + j).toNat) → s'.1 a k = s.1 a k) (c1 : s'.1 p (13 + j).toNat = Int32.ofInt v) : CDf (sB B 0 j v) G N p s' := by
  have z : ∀ (i : Nat) (k : Int), ¬ (i = 0 ∧ k = j) → sB B 0 j v i k = B i k := fun i k h => if_neg h
  have zK : bK (sB B 0 j v) = bK B := z 0 2 (by omega)
  have zM : bM (sB B 0 j v) = bM B := z 0 3 (by omega)
  have zF : bF (sB B 0 j v) = bF B := z 0 4 (by omega)
  have zH : bHm (sB B 0 j v) = bHm B := z 0 7 (by omega)
  obtain ⟨⟨⟨a1, a2, a3, a4, a5, a6, a7⟩, b1, b2, b3, b4⟩, ⟨d1, d2⟩, d3, d4, d5⟩ := h
  have hGS : s'.1 p 18 = Int32.ofInt (bGr (sB B 0 j v)) ∧ s'.1 p 19 = Int32.ofInt (bSl (sB B 0 j v)) := by
    rcases hj with rfl | rfl
    · rw [show bGr (sB B 0 5 v) = v from sB_e rfl rfl, show bSl (sB B 0 5 v) = bSl B from z 0 6 (by omega)]
      exact ⟨c1, (hf _ _ (by omega) (by omega) (by omega)).trans a7⟩
    · rw [show bSl (sB B 0 6 v) = v from sB_e rfl rfl, show bGr (sB B 0 6 v) = bGr B from z 0 5 (by omega)]
      exact ⟨(hf _ _ (by omega) (by omega) (by omega)).trans a6, c1⟩
  refine ⟨⟨⟨by rw [show bW (sB B 0 j v) = bW B from z 0 0 (by omega)]; exact (hf _ _ (by omega) (by omega) (by omega)).trans a1, by rw [show bH (sB B 0 j v) = bH B from z 0 1 (by omega)]; exact (hf _ _ (by omega) (by omega) (by omega)).trans a2, by rw [zK]; exact (hf _ _ (by omega) (by omega) (by omega)).trans a3, by rw [zM]; exact (hf _ _ (by omega) (by omega) (by omega)).trans a4, by rw [zF]; exact (hf _ _ (by omega) (by omega) (by omega)).trans a5, hGS.1, hGS.2⟩, fun k k0 k1 => ?_, fun k k0 k1 => ?_, fun k k0 k1 => ?_, ?_⟩, ⟨by rw [show bD (sB B 0 j v) 0 = bD B 0 from z 1 0 (by omega)]; exact (hf _ _ (by omega) (by omega) (by omega)).trans d1, by rw [show bD (sB B 0 j v) 1 = bD B 1 from z 1 1 (by omega)]; exact (hf _ _ (by omega) (by omega) (by omega)).trans d2⟩, fun m m0 m1 => ?_, fun f f0 f1 => ?_, fun q j0 j1 => ?_⟩
  · rw [zK] at k1
    obtain ⟨x1, x2, x3, x4⟩ := b1 k k0 k1
    rw [show wy (sB B 0 j v) k = wy B k from z 2 k (by omega), show rch (sB B 0 j v) k = rch B k from z 3 k (by omega), show wo (sB B 0 j v) k = wo B k from z 4 k (by omega), show cr (sB B 0 j v) k = cr B k from z 5 k (by omega)]
    exact ⟨(hf _ _ (by omega) (by omega) (by omega)).trans x1, (hf _ _ (by omega) (by omega) (by omega)).trans x2, (hf _ _ (by omega) (by omega) (by omega)).trans x3, (hf _ _ (by omega) (by omega) (by omega)).trans x4⟩
  · rw [zM] at k1
    obtain ⟨x1, x2⟩ := b2 k k0 k1
    rw [show kd (sB B 0 j v) k = kd B k from z 6 k (by omega), show sd (sB B 0 j v) k = sd B k from z 7 k (by omega)]
    exact ⟨(hf _ _ (by omega) (by omega) (by omega)).trans x1, (hf _ _ (by omega) (by omega) (by omega)).trans x2⟩
  · rw [zF] at k1
    rw [show fx (sB B 0 j v) k = fx B k from z 8 k (by omega), show fy (sB B 0 j v) k = fy B k from z 9 k (by omega)]
    exact (hf _ _ (by omega) (by omega) (by omega)).trans (b3 k k0 k1)
  · unfold PBh
    rw [zH]
    rcases b4 with ⟨x1, x2⟩ | ⟨x1, x2, x3, x4, x5⟩
    · exact Or.inl ⟨x1, (hf _ _ (by omega) (by omega) (by omega)).trans x2⟩
    · exact Or.inr ⟨x1, x2, (hf _ _ (by omega) (by omega) (by omega)).trans x3, (hf _ _ (by omega) (by omega) (by omega)).trans x4, fun i i0 i1 => by rw [show hcd (sB B 0 j v) i = hcd B i from z 11 i (by omega)]; exact (hf _ _ (by omega) (by omega) (by omega)).trans (x5 i i0 i1)⟩
  · rw [zM] at m1
    exact (hf _ _ (by omega) (by omega) (by omega)).trans (d3 m m0 m1)
  · rw [zF] at f1
    exact (hf _ _ (by omega) (by omega) (by omega)).trans (d4 f f0 f1)
  · have : nsl (sB B 0 j v) N q = nsl B N q := by unfold nsl; rw [zK, zM, zF]
    rw [this]
    exact (hf _ _ (by omega) (by omega) (by omega)).trans (d5 q j0 j1)
def CDD (T : Int → Int) (n : Int) (p : Nat) (r : EX (DRF × Cur)) (s : ST) : Prop := RQ r (fun a => CDf a.1.1 a.1.2.1 a.1.2.2 p s ∧ CC T n a.2 s) (fun k q => CD k q s)
theorem c_stm (hp : p = 6 ∨ p = 20) {D : DRF} {c : Cur} {s : ST} (hc : CC T n c s) (hV : DV D.1 D.2.1 D.2.2) (hD : CDf D.1 D.2.1 D.2.2 p s) : ∃ s', f_X8_statement p s = some s' ∧ CBh p s s' ∧ CDD T n p (stmS T n D c) s' := by
  have hsort := hc.2.2.2.2.1
  have hsb := srt_b T n c
  have hwb := wix_b T n c
  have hn := hc.nb
  obtain ⟨sf, f1, f2, f3⟩ := c_ff hc
  have isf : ∀ k : Nat, k < 39 → ¬ (isW T n c = true ∧ wix T n c = (k : Int)) → isWL T n c (WDl k) = false := by
    intro k hk h
    rw [isWL_ix hk]
    cases eW : isW T n c with
    | false => rfl
    | true => rw [Bool.true_and]; exact decide_eq_false (fun x => h ⟨eW, x⟩)
  have ist : ∀ k : Nat, k < 39 → isW T n c = true → wix T n c = (k : Int) → isWL T n c (WDl k) = true := by
    intro k hk h1 h2
    rw [isWL_ix hk, h1, Bool.true_and]
    exact decide_eq_true h2
  -- no statement begins so
  have none_ : ¬ (isW T n c = true ∧ (wix T n c = 4 ∨ wix T n c = 9 ∨ wix T n c = 13 ∨ wix T n c = 15 ∨ wix T n c = 16 ∨ wix T n c = 17)) → stmS T n D c = .error (1, frm T n c) := by
    intro h
    unfold stmS tkW
    rw [isf 4 (by omega) (fun x => h ⟨x.1, Or.inl x.2⟩), isf 9 (by omega) (fun x => h ⟨x.1, Or.inr (Or.inl x.2)⟩), isf 13 (by omega) (fun x => h ⟨x.1, Or.inr (Or.inr (Or.inl x.2))⟩), isf 15 (by omega) (fun x => h ⟨x.1, Or.inr (Or.inr (Or.inr (Or.inl x.2)))⟩), isf 16 (by omega) (fun x => h ⟨x.1, Or.inr (Or.inr (Or.inr (Or.inr (Or.inl x.2))))⟩), isf 17 (by omega) (fun x => h ⟨x.1, Or.inr (Or.inr (Or.inr (Or.inr (Or.inr x.2))))⟩)]
    rfl
  cases eW : isW T n c with
  | false =>
    have e1 : ¬ srt T n c = 1 := fun x => by rw [srt_1.mp x] at eW; cases eW
    refine ⟨sf, ?_, f3.h p, ?_⟩
    · simp (disch := omega) only [f_X8_statement, f_X8_statement_j22, hsort, ↓bb f1, n_l1, n_l2, n_l3, n_l4, n_l5, n_l6, n_l7, n_l8, n_l9, n_l10, n_l11, n_l12, n_l13, n_l14, n_l15, n_l16, n_l17, n_l18, n_l19, n_l20, n_l21, n_l22, n_l23, n_l24, n_l25, n_l26, n_l27, n_l28, n_l29, n_l30, n_l31, n_l32, n_l33, n_l34, n_l35, n_l36, n_l37, n_l38, n_l39, n_l40, n_l41, n_l42, n_l43, n_l44, n_l45, n_l46, n_l47, n_l48, n_l49, n_l50, n_l51, n_l52, n_l53, n_l54, n_l55, n_l56, n_l57, n_l58, n_l59, n_l60, n_i8, n_i16, n_0, n_31, n_add, n_sub, n_mul, n_neg, n_div, n_rem, n_le_t, n_le_f, n_lt_t, n_lt_f, n_eq_t, n_eq_f, n_cl, n_gd, n_gdt, n_nz, Int.reduceToNat, Int.reduceAdd, Int.reduceSub, Int.reduceMul, Int.reduceNeg, Int.reduceLT, Int.reduceLE, Int.reduceEq, Int.reduceDiv, Int.reduceMod, Nat.reduceAdd, Nat.reduceMul, ↓reduceIte]
    · rw [none_ (fun x => by rw [eW] at x; cases x.1)]
      exact f2
  | true =>
    have e1 := srt_1.mpr eW
    have h4 := hc.2.2.2.2.2.1 e1
    rw [e1] at hsort
    have hnx := nx_W eW
    have es : f_X8_statement p s = f_X8_statement_j22 p (Int32.ofInt (wix T n c)) s := by
      simp (disch := omega) only [f_X8_statement, hsort, h4, n_i8, n_i16, n_0, n_31, n_add, n_sub, n_mul, n_neg, n_div, n_rem, n_le_t, n_le_f, n_lt_t, n_lt_f, n_eq_t, n_eq_f, n_cl, n_gd, n_gdt, n_nz, Int.reduceToNat, Int.reduceAdd, Int.reduceSub, Int.reduceMul, Int.reduceNeg, Int.reduceLT, Int.reduceLE, Int.reduceEq, Int.reduceDiv, Int.reduceMod, Nat.reduceAdd, Nat.reduceMul, ↓reduceIte]
    rw [es]
    by_cases w4 : wix T n c = 4
    · have t4 := ist 4 (by omega) eW w4
      obtain ⟨s', q1, q2, q3, q4⟩ := c_kndT hp hV hD hc
      refine ⟨s', ?_, q2.h, ?_⟩
      · rw [w4]
        simp (disch := omega) only [f_X8_statement_j22, ↓bb q1, n_l1, n_l2, n_l3, n_l4, n_l5, n_l6, n_l7, n_l8, n_l9, n_l10, n_l11, n_l12, n_l13, n_l14, n_l15, n_l16, n_l17, n_l18, n_l19, n_l20, n_l21, n_l22, n_l23, n_l24, n_l25, n_l26, n_l27, n_l28, n_l29, n_l30, n_l31, n_l32, n_l33, n_l34, n_l35, n_l36, n_l37, n_l38, n_l39, n_l40, n_l41, n_l42, n_l43, n_l44, n_l45, n_l46, n_l47, n_l48, n_l49, n_l50, n_l51, n_l52, n_l53, n_l54, n_l55, n_l56, n_l57, n_l58, n_l59, n_l60, n_i8, n_i16, n_0, n_31, n_add, n_sub, n_mul, n_neg, n_div, n_rem, n_le_t, n_le_f, n_lt_t, n_lt_f, n_eq_t, n_eq_f, n_cl, n_gd, n_gdt, n_nz, Int.reduceToNat, Int.reduceAdd, Int.reduceSub, Int.reduceMul, Int.reduceNeg, Int.reduceLT, Int.reduceLE, Int.reduceEq, Int.reduceDiv, Int.reduceMod, Nat.reduceAdd, Nat.reduceMul, ↓reduceIte]
      · unfold stmS
        rw [if_pos t4]
        by_cases e5 : bK D.1 = 5
        · rw [if_pos e5]; exact q3 e5
        · rw [if_neg e5]
          have q4 := q4 e5
          rw [hnx] at q4
          cases eS : kndS T n (dupD D.1 D.2.2) (nxW T n c) with
          | error x => rw [eS] at q4; exact q4
          | ok a => rw [eS] at q4; exact q4
    have f4 := isf 4 (by omega) (fun x => w4 x.2)
    by_cases w9 : wix T n c = 9
    · have t9 := ist 9 (by omega) eW w9
      obtain ⟨s', q1, q2, q3, q4⟩ := c_manT hp hV hD hc
      refine ⟨s', ?_, q2.h, ?_⟩
      · rw [w9]
        simp (disch := omega) only [f_X8_statement_j22, ↓bb q1, n_l1, n_l2, n_l3, n_l4, n_l5, n_l6, n_l7, n_l8, n_l9, n_l10, n_l11, n_l12, n_l13, n_l14, n_l15, n_l16, n_l17, n_l18, n_l19, n_l20, n_l21, n_l22, n_l23, n_l24, n_l25, n_l26, n_l27, n_l28, n_l29, n_l30, n_l31, n_l32, n_l33, n_l34, n_l35, n_l36, n_l37, n_l38, n_l39, n_l40, n_l41, n_l42, n_l43, n_l44, n_l45, n_l46, n_l47, n_l48, n_l49, n_l50, n_l51, n_l52, n_l53, n_l54, n_l55, n_l56, n_l57, n_l58, n_l59, n_l60, n_i8, n_i16, n_0, n_31, n_add, n_sub, n_mul, n_neg, n_div, n_rem, n_le_t, n_le_f, n_lt_t, n_lt_f, n_eq_t, n_eq_f, n_cl, n_gd, n_gdt, n_nz, Int.reduceToNat, Int.reduceAdd, Int.reduceSub, Int.reduceMul, Int.reduceNeg, Int.reduceLT, Int.reduceLE, Int.reduceEq, Int.reduceDiv, Int.reduceMod, Nat.reduceAdd, Nat.reduceMul, ↓reduceIte]
      · unfold stmS
        rw [f4, if_neg (by decide), if_pos t9]
        by_cases e5 : bM D.1 = 8
        · rw [if_pos e5]; exact q3 e5
        · rw [if_neg e5]
          have q4 := q4 e5
          rw [hnx] at q4
          cases eS : manS T n D.1 D.2.1 D.2.2 (nxW T n c) with
          | error x => rw [eS] at q4; exact q4
          | ok a => rw [eS] at q4; exact q4
    have f9 := isf 9 (by omega) (fun x => w9 x.2)
    by_cases w13 : wix T n c = 13
    · have t13 := ist 13 (by omega) eW w13
      obtain ⟨s', q1, q2, q3, q4⟩ := c_fldT hp hV hD hc
      refine ⟨s', ?_, q2.h, ?_⟩
      · rw [w13]
        simp (disch := omega) only [f_X8_statement_j22, ↓bb q1, n_l1, n_l2, n_l3, n_l4, n_l5, n_l6, n_l7, n_l8, n_l9, n_l10, n_l11, n_l12, n_l13, n_l14, n_l15, n_l16, n_l17, n_l18, n_l19, n_l20, n_l21, n_l22, n_l23, n_l24, n_l25, n_l26, n_l27, n_l28, n_l29, n_l30, n_l31, n_l32, n_l33, n_l34, n_l35, n_l36, n_l37, n_l38, n_l39, n_l40, n_l41, n_l42, n_l43, n_l44, n_l45, n_l46, n_l47, n_l48, n_l49, n_l50, n_l51, n_l52, n_l53, n_l54, n_l55, n_l56, n_l57, n_l58, n_l59, n_l60, n_i8, n_i16, n_0, n_31, n_add, n_sub, n_mul, n_neg, n_div, n_rem, n_le_t, n_le_f, n_lt_t, n_lt_f, n_eq_t, n_eq_f, n_cl, n_gd, n_gdt, n_nz, Int.reduceToNat, Int.reduceAdd, Int.reduceSub, Int.reduceMul, Int.reduceNeg, Int.reduceLT, Int.reduceLE, Int.reduceEq, Int.reduceDiv, Int.reduceMod, Nat.reduceAdd, Nat.reduceMul, ↓reduceIte]
      · unfold stmS
        rw [f4, if_neg (by decide), f9, if_neg (by decide), if_pos t13]
        by_cases e5 : bF D.1 = 6
        · rw [if_pos e5]; exact q3 e5
        · rw [if_neg e5]
          have q4 := q4 e5
          rw [hnx] at q4
          cases eS : fldS T n D.1 D.2.2 (nxW T n c) with
          | error x => rw [eS] at q4; exact q4
          | ok a => rw [eS] at q4; exact q4
    have f13 := isf 13 (by omega) (fun x => w13 x.2)
    by_cases w15 : wix T n c = 15
    · have t15 := ist 15 (by omega) eW w15
      have hwb2 := wd_b eW hn.1 hn.2.1
      rw [w15]
      rcases hD.1.2.2.2.2 with ⟨x1, x2⟩ | ⟨x1, x2, x3, -, -⟩
      · obtain ⟨be1, -⟩ := c_begins hc (v := 0) (m := 1) (by omega) (by omega) (by omega) (by omega)
        obtain ⟨s1, q1, r1, p1⟩ := be1 (by omega)
        rw [hnx] at r1
        have hfq : FQ (p + 12) := by rcases hp with rfl | rfl; exact Or.inl rfl; exact Or.inr (Or.inl rfl)
        have hk2 : kk (p + 12) 2 = true := fq_k hfq
        have hf2 : ∀ o k : Nat, ¬ (o = p ∧ k = 17) → ¬ (o = p + 12 ∧ k = 1) → ¬ (o = 5 ∧ k = 2) → (uI (uR (uI (uI s1 p 17 (Int32.ofInt 1)) (p + 12) 1 (Int32.ofInt 0)) 5 1 (p + 12)) 5 2 (Int32.ofInt 0)).1 o k = s1.1 o k := fun o k y1 y2 y3 => by
          rw [show (uI (uR (uI (uI s1 p 17 (Int32.ofInt 1)) (p + 12) 1 (Int32.ofInt 0)) 5 1 (p + 12)) 5 2 (Int32.ofInt 0)).1 o k = (uI (uI (uI s1 p 17 (Int32.ofInt 1)) (p + 12) 1 (Int32.ofInt 0)) 5 2 (Int32.ofInt 0)).1 o k from rfl]
          (simp only [ua, ja, u_2, u_3, j_1, j_3]; (repeat' split) <;> first | rfl | (exfalso; omega))
        have hCS : CS false (p + 12) [] (uI (uR (uI (uI s1 p 17 (Int32.ofInt 1)) (p + 12) 1 (Int32.ofInt 0)) 5 1 (p + 12)) 5 2 (Int32.ofInt 0)) := by
          refine ⟨rfl, u_eq _ _ _ _, ?_, fun i hi => by cases hi⟩
          rw [u_no (by omega)]
          exact u_eq _ _ _ _
        have h17 : (uI (uR (uI (uI s1 p 17 (Int32.ofInt 1)) (p + 12) 1 (Int32.ofInt 0)) 5 1 (p + 12)) 5 2 (Int32.ofInt 0)).1 p 17 = Int32.ofInt 1 := by
          rw [u_no (by omega)]
          show (uI (uI s1 p 17 (Int32.ofInt 1)) (p + 12) 1 (Int32.ofInt 0)).1 p 17 = Int32.ofInt 1
          rw [u_no (by omega), u_eq]
        have hB2 : CBh p s1 (uI (uR (uI (uI s1 p 17 (Int32.ofInt 1)) (p + 12) 1 (Int32.ofInt 0)) 5 1 (p + 12)) 5 2 (Int32.ofInt 0)) := ⟨fun o k y1 y2 y3 => hf2 o k (by omega) (by omega) y3, rfl, fun j hj => by
          show (if j = slot 5 1 then some (p + 12) else s1.2.2 j) = s1.2.2 j
          rw [if_neg (show ¬ j = slot 5 1 from hj)]⟩
        have est : f_X1_start (p + 12) (Int32.ofInt 0) (uI s1 p 17 (Int32.ofInt 1)) = some (uI (uR (uI (uI s1 p 17 (Int32.ofInt 1)) (p + 12) 1 (Int32.ofInt 0)) 5 1 (p + 12)) 5 2 (Int32.ofInt 0)) := by
          have eb01 : b01 (Int32.ofInt 0) = true := by decide
          unfold f_X1_start
          rw [hk2, eb01, n_gdt, n_gdt, ltd]
        generalize (uI (uR (uI (uI s1 p 17 (Int32.ofInt 1)) (p + 12) 1 (Int32.ofInt 0)) 5 1 (p + 12)) 5 2 (Int32.ofInt 0)) = s2 at *
        have hC2 : CC T n (nxW T n c) s2 := CC_fr r1 (fun o k y => hf2 o k (by omega) (by omega) (by omega))
        obtain ⟨s3, q3, q4, q5⟩ := (c_sumT (T := T) (n := n) (m := false) hfq (d := 6) (o := 0) (by omega) (by omega)).1 (nxW T n c) [] s2 hC2 hCS (by show (0 : Int) ≤ (nxW T n c).1; omega)
        have hB3 : CBh p s2 s3 := ⟨fun o k y1 y2 y3 => q4.1 o k y1 (by omega) (by omega), by rw [q4.2], fun j _ => by rw [q4.2]⟩
        refine ⟨s3, ?_, ((p1.h p).tr hB2).tr hB3, ?_⟩
        · simp (disch := omega) only [f_X8_statement_j22, x2, ↓bb q1, ↓bb est, ↓bb q3, n_l1, n_l2, n_l3, n_l4, n_l5, n_l6, n_l7, n_l8, n_l9, n_l10, n_l11, n_l12, n_l13, n_l14, n_l15, n_l16, n_l17, n_l18, n_l19, n_l20, n_l21, n_l22, n_l23, n_l24, n_l25, n_l26, n_l27, n_l28, n_l29, n_l30, n_l31, n_l32, n_l33, n_l34, n_l35, n_l36, n_l37, n_l38, n_l39, n_l40, n_l41, n_l42, n_l43, n_l44, n_l45, n_l46, n_l47, n_l48, n_l49, n_l50, n_l51, n_l52, n_l53, n_l54, n_l55, n_l56, n_l57, n_l58, n_l59, n_l60, g_kk, g_k1, g_n1, g_k2, g_n2, g_k3, g_n3, g_k4, g_n4, g_k5, g_n5, g_k7, g_n7, g_k8, g_n8, g_k9, g_n9, g_k6, g_r3, g_r4, g_r5, g_r6, g_r7, g_r10, g_q0, g_q1, g_q2, p_kk, p_k1, p_n1, p_k2, p_n2, p_k3, p_n3, p_k4, p_n4, p_k5, p_n5, p_k6, p_n6, p_k7, p_n7, p_k8, p_n8, p_k9, p_n9, p_k10, p_n10, p_k11, p_n11, p_k13, p_n13, p_k12, p_r2, p_r4, p_r5, p_r6, p_r7, p_r9, p_r10, p_r11, p_r13, p_r14, p_r15, p_r16, p_h0, n_i8, n_i16, n_0, n_31, n_add, n_sub, n_mul, n_neg, n_div, n_rem, n_le_t, n_le_f, n_lt_t, n_lt_f, n_eq_t, n_eq_f, n_cl, n_gd, n_gdt, n_nz, Int.reduceToNat, Int.reduceAdd, Int.reduceSub, Int.reduceMul, Int.reduceNeg, Int.reduceLT, Int.reduceLE, Int.reduceEq, Int.reduceDiv, Int.reduceMod, Nat.reduceAdd, Nat.reduceMul, ↓reduceIte, u_eq, u_no, u_nk, u_ek, u_2, u_3, j_1, j_3, j_eq, j_no, j_nk, ltd, bnd]
        · unfold stmS
          rw [f4, if_neg (by decide), f9, if_neg (by decide), f13, if_neg (by decide), if_pos t15, if_pos x1]
          cases eS : sumT T n false 6 (nxW T n c) with
          | error x => rw [eS] at q5; exact q5.1
          | ok a =>
            rw [eS] at q5
            obtain ⟨y1, y2⟩ := (q5 : CC T n a.2 s3 ∧ CS false (p + 12) ([] ++ a.1) s3)
            rw [List.nil_append] at y2
            obtain ⟨l1, l2, l3⟩ := sumT_l eS (by omega) (by omega)
            refine ⟨CDf_H hD (by omega) (fun a' k z1 z2 z3 z4 z5 => ?_) ?_ y2.2.2.1 y2.2.2.2, y1⟩
            · rw [q4.1 a' k (by omega) (by omega) (by omega), hf2 a' k z3 z4 (by omega), p1.1 a' k (by omega)]
            · rw [q4.1 p 17 (by omega) (by omega) (by omega), h17]
      · obtain ⟨-, be2⟩ := c_begins hc (v := 1) (m := 1) (by omega) (by omega) (by omega) (by omega)
        obtain ⟨s1, q1, r1, p1⟩ := be2 (by omega)
        refine ⟨s1, ?_, p1.h p, ?_⟩
        · simp (disch := omega) only [f_X8_statement_j22, x3, ↓bb q1, n_l1, n_l2, n_l3, n_l4, n_l5, n_l6, n_l7, n_l8, n_l9, n_l10, n_l11, n_l12, n_l13, n_l14, n_l15, n_l16, n_l17, n_l18, n_l19, n_l20, n_l21, n_l22, n_l23, n_l24, n_l25, n_l26, n_l27, n_l28, n_l29, n_l30, n_l31, n_l32, n_l33, n_l34, n_l35, n_l36, n_l37, n_l38, n_l39, n_l40, n_l41, n_l42, n_l43, n_l44, n_l45, n_l46, n_l47, n_l48, n_l49, n_l50, n_l51, n_l52, n_l53, n_l54, n_l55, n_l56, n_l57, n_l58, n_l59, n_l60, g_kk, g_k1, g_n1, g_k2, g_n2, g_k3, g_n3, g_k4, g_n4, g_k5, g_n5, g_k7, g_n7, g_k8, g_n8, g_k9, g_n9, g_k6, g_r3, g_r4, g_r5, g_r6, g_r7, g_r10, g_q0, g_q1, g_q2, p_kk, p_k1, p_n1, p_k2, p_n2, p_k3, p_n3, p_k4, p_n4, p_k5, p_n5, p_k6, p_n6, p_k7, p_n7, p_k8, p_n8, p_k9, p_n9, p_k10, p_n10, p_k11, p_n11, p_k13, p_n13, p_k12, p_r2, p_r4, p_r5, p_r6, p_r7, p_r9, p_r10, p_r11, p_r13, p_r14, p_r15, p_r16, p_h0, n_i8, n_i16, n_0, n_31, n_add, n_sub, n_mul, n_neg, n_div, n_rem, n_le_t, n_le_f, n_lt_t, n_lt_f, n_eq_t, n_eq_f, n_cl, n_gd, n_gdt, n_nz, Int.reduceToNat, Int.reduceAdd, Int.reduceSub, Int.reduceMul, Int.reduceNeg, Int.reduceLT, Int.reduceLE, Int.reduceEq, Int.reduceDiv, Int.reduceMod, Nat.reduceAdd, Nat.reduceMul, ↓reduceIte, u_eq, u_no, u_nk, u_ek, u_2, u_3, j_1, j_3, j_eq, j_no, j_nk, ltd, bnd]
        · unfold stmS
          rw [f4, if_neg (by decide), f9, if_neg (by decide), f13, if_neg (by decide), if_pos t15, if_neg (show ¬ bHm D.1 = -1 by omega)]
          exact r1
    have f15 := isf 15 (by omega) (fun x => w15 x.2)
    by_cases w16 : wix T n c = 16
    · have t16 := ist 16 (by omega) eW w16
      obtain ⟨s1, q1, r1, p1⟩ := c_step hc
      rw [hnx] at r1
      obtain ⟨v, s2, q2, p2, r2⟩ := c_tN r1 (lo := 0) (hi := 99) (by omega) (by omega) (by omega) (by omega)
      have hf : ∀ o k : Nat, ¬ (o = p ∧ k = 18) → (uI s2 p 18 v).1 o k = s2.1 o k := fun o k x => by (simp only [ua, ja, u_2, u_3, j_1, j_3]; (repeat' split) <;> first | rfl | (exfalso; omega))
      refine ⟨uI s2 p 18 v, ?_, ((p1.tr p2).h p).tr ⟨fun o k x y z => hf o k (by omega), rfl, fun _ _ => rfl⟩, ?_⟩
      · rw [w16]
        simp (disch := omega) only [f_X8_statement_j22, ↓bb q1, ↓bb q2, n_l1, n_l2, n_l3, n_l4, n_l5, n_l6, n_l7, n_l8, n_l9, n_l10, n_l11, n_l12, n_l13, n_l14, n_l15, n_l16, n_l17, n_l18, n_l19, n_l20, n_l21, n_l22, n_l23, n_l24, n_l25, n_l26, n_l27, n_l28, n_l29, n_l30, n_l31, n_l32, n_l33, n_l34, n_l35, n_l36, n_l37, n_l38, n_l39, n_l40, n_l41, n_l42, n_l43, n_l44, n_l45, n_l46, n_l47, n_l48, n_l49, n_l50, n_l51, n_l52, n_l53, n_l54, n_l55, n_l56, n_l57, n_l58, n_l59, n_l60, g_kk, g_k1, g_n1, g_k2, g_n2, g_k3, g_n3, g_k4, g_n4, g_k5, g_n5, g_k7, g_n7, g_k8, g_n8, g_k9, g_n9, g_k6, g_r3, g_r4, g_r5, g_r6, g_r7, g_r10, g_q0, g_q1, g_q2, p_kk, p_k1, p_n1, p_k2, p_n2, p_k3, p_n3, p_k4, p_n4, p_k5, p_n5, p_k6, p_n6, p_k7, p_n7, p_k8, p_n8, p_k9, p_n9, p_k10, p_n10, p_k11, p_n11, p_k13, p_n13, p_k12, p_r2, p_r4, p_r5, p_r6, p_r7, p_r9, p_r10, p_r11, p_r13, p_r14, p_r15, p_r16, p_h0, n_i8, n_i16, n_0, n_31, n_add, n_sub, n_mul, n_neg, n_div, n_rem, n_le_t, n_le_f, n_lt_t, n_lt_f, n_eq_t, n_eq_f, n_cl, n_gd, n_gdt, n_nz, Int.reduceToNat, Int.reduceAdd, Int.reduceSub, Int.reduceMul, Int.reduceNeg, Int.reduceLT, Int.reduceLE, Int.reduceEq, Int.reduceDiv, Int.reduceMod, Nat.reduceAdd, Nat.reduceMul, ↓reduceIte, u_eq, u_no, u_nk, u_ek, u_2, u_3, j_1, j_3, j_eq, j_no, j_nk, ltd, bnd]
      · unfold stmS
        rw [f4, if_neg (by decide), f9, if_neg (by decide), f13, if_neg (by decide), f15, if_neg (by decide), if_pos t16]
        cases eS : numS T n (nxW T n c) 0 99 with
        | error x => rw [eS] at r2; exact CD_fr r2.2 (fun k => hf 3 k (by omega))
        | ok a =>
          rw [eS] at r2
          refine ⟨CDf_S hD (Or.inl rfl) (fun a' k x y z => ?_) ?_, CC_fr r2.2 (fun o k x => hf o k (by omega))⟩
          · rw [hf a' k z, p2.1 a' k (by omega), p1.1 a' k (by omega)]
          · show (uI s2 p 18 v).1 p 18 = _
            rw [u_eq]; exact r2.1
    have f16 := isf 16 (by omega) (fun x => w16 x.2)
    by_cases w17 : wix T n c = 17
    · have t17 := ist 17 (by omega) eW w17
      obtain ⟨s1, q1, r1, p1⟩ := c_step hc
      rw [hnx] at r1
      obtain ⟨v, s2, q2, p2, r2⟩ := c_tN r1 (lo := 0) (hi := 100) (by omega) (by omega) (by omega) (by omega)
      have hf : ∀ o k : Nat, ¬ (o = p ∧ k = 19) → (uI s2 p 19 v).1 o k = s2.1 o k := fun o k x => by (simp only [ua, ja, u_2, u_3, j_1, j_3]; (repeat' split) <;> first | rfl | (exfalso; omega))
      refine ⟨uI s2 p 19 v, ?_, ((p1.tr p2).h p).tr ⟨fun o k x y z => hf o k (by omega), rfl, fun _ _ => rfl⟩, ?_⟩
      · rw [w17]
        simp (disch := omega) only [f_X8_statement_j22, ↓bb q1, ↓bb q2, n_l1, n_l2, n_l3, n_l4, n_l5, n_l6, n_l7, n_l8, n_l9, n_l10, n_l11, n_l12, n_l13, n_l14, n_l15, n_l16, n_l17, n_l18, n_l19, n_l20, n_l21, n_l22, n_l23, n_l24, n_l25, n_l26, n_l27, n_l28, n_l29, n_l30, n_l31, n_l32, n_l33, n_l34, n_l35, n_l36, n_l37, n_l38, n_l39, n_l40, n_l41, n_l42, n_l43, n_l44, n_l45, n_l46, n_l47, n_l48, n_l49, n_l50, n_l51, n_l52, n_l53, n_l54, n_l55, n_l56, n_l57, n_l58, n_l59, n_l60, g_kk, g_k1, g_n1, g_k2, g_n2, g_k3, g_n3, g_k4, g_n4, g_k5, g_n5, g_k7, g_n7, g_k8, g_n8, g_k9, g_n9, g_k6, g_r3, g_r4, g_r5, g_r6, g_r7, g_r10, g_q0, g_q1, g_q2, p_kk, p_k1, p_n1, p_k2, p_n2, p_k3, p_n3, p_k4, p_n4, p_k5, p_n5, p_k6, p_n6, p_k7, p_n7, p_k8, p_n8, p_k9, p_n9, p_k10, p_n10, p_k11, p_n11, p_k13, p_n13, p_k12, p_r2, p_r4, p_r5, p_r6, p_r7, p_r9, p_r10, p_r11, p_r13, p_r14, p_r15, p_r16, p_h0, n_i8, n_i16, n_0, n_31, n_add, n_sub, n_mul, n_neg, n_div, n_rem, n_le_t, n_le_f, n_lt_t, n_lt_f, n_eq_t, n_eq_f, n_cl, n_gd, n_gdt, n_nz, Int.reduceToNat, Int.reduceAdd, Int.reduceSub, Int.reduceMul, Int.reduceNeg, Int.reduceLT, Int.reduceLE, Int.reduceEq, Int.reduceDiv, Int.reduceMod, Nat.reduceAdd, Nat.reduceMul, ↓reduceIte, u_eq, u_no, u_nk, u_ek, u_2, u_3, j_1, j_3, j_eq, j_no, j_nk, ltd, bnd]
      · unfold stmS tkW
        rw [f4, if_neg (by decide), f9, if_neg (by decide), f13, if_neg (by decide), f15, if_neg (by decide), f16, if_neg (by decide), if_pos t17, eb_ok]
        cases eS : numS T n (nxW T n c) 0 100 with
        | error x => rw [eS] at r2; exact CD_fr r2.2 (fun k => hf 3 k (by omega))
        | ok a =>
          rw [eS] at r2
          refine ⟨CDf_S hD (Or.inr rfl) (fun a' k x y z => ?_) ?_, CC_fr r2.2 (fun o k x => hf o k (by omega))⟩
          · rw [hf a' k z, p2.1 a' k (by omega), p1.1 a' k (by omega)]
          · show (uI s2 p 19 v).1 p 19 = _
            rw [u_eq]; exact r2.1
    refine ⟨sf, ?_, f3.h p, ?_⟩
    · simp (disch := omega) only [f_X8_statement_j22, ↓bb f1, n_l1, n_l2, n_l3, n_l4, n_l5, n_l6, n_l7, n_l8, n_l9, n_l10, n_l11, n_l12, n_l13, n_l14, n_l15, n_l16, n_l17, n_l18, n_l19, n_l20, n_l21, n_l22, n_l23, n_l24, n_l25, n_l26, n_l27, n_l28, n_l29, n_l30, n_l31, n_l32, n_l33, n_l34, n_l35, n_l36, n_l37, n_l38, n_l39, n_l40, n_l41, n_l42, n_l43, n_l44, n_l45, n_l46, n_l47, n_l48, n_l49, n_l50, n_l51, n_l52, n_l53, n_l54, n_l55, n_l56, n_l57, n_l58, n_l59, n_l60, n_i8, n_i16, n_0, n_31, n_add, n_sub, n_mul, n_neg, n_div, n_rem, n_le_t, n_le_f, n_lt_t, n_lt_f, n_eq_t, n_eq_f, n_cl, n_gd, n_gdt, n_nz, Int.reduceToNat, Int.reduceAdd, Int.reduceSub, Int.reduceMul, Int.reduceNeg, Int.reduceLT, Int.reduceLE, Int.reduceEq, Int.reduceDiv, Int.reduceMod, Nat.reduceAdd, Nat.reduceMul, ↓reduceIte, ite_self]
    · rw [none_ (fun x => by rcases x.2 with y | y | y | y | y | y <;> omega)]
      exact f2
