/-! L3: the reference reads men and fields -/
variable {T : Int → Int} {n : Int} {B : Brd} {G : Gam} {N : Int → Int → List Int}
def RPg (s s' : ST) : Prop := (∀ o k : Nat, ¬ (o = 65 ∧ (k = 2 ∨ k = 4 ∨ k = 5 ∨ k = 6 ∨ k = 10 ∨ k = 44 ∨ k = 60 ∨ k = 61)) → s'.1 o k = s.1 o k) ∧ s'.2 = s.2
theorem RPg.tr {s t u : ST} (h1 : RPg s t) (h2 : RPg t u) : RPg s u := ⟨fun o k x => (h2.1 o k x).trans (h1.1 o k x), h2.2.trans h1.2⟩
theorem RPf.g {s t : ST} (h : RPf s t) : RPg s t := ⟨fun o k x => h.1 o k (by omega), h.2⟩
theorem RPg.b {s t : ST} (h : RPg s t) : BFr s t := ⟨fun o k x => h.1 o k (by unfold LO at x; omega), fun o k _ => by rw [h.2], by rw [h.2]⟩
theorem RD_g {s s' : ST} (h : RD B G N s) (hf : RPg s s') : RD B G N s' := RD_fr h (fun o k x => hf.1 o k (by omega)) (by rw [hf.2])
theorem WDS_g {s s' : ST} (h : WDS s) (hf : RPg s s') : WDS s' := WDS_fr h (fun o k ho => hf.1 o k (by omega))
section GR
variable (T : Int → Int) (n : Int)
def plcS (W H : Int) (c : Cur) : EX ((Int × Int × Int) × Cur) := eb (numS T n c 0 (W - 1)) (fun x => eb (numS T n x.2 0 (H - 1)) (fun y => .ok ((x.1, y.1, frm T n x.2), y.2)))
def hld (B : Brd) (G : Gam) (x y : Int) : Bool := (upto (bM B).toNat 0).any (fun m => decide (gx G m = x ∧ gy G m = y))
def knS (B : Brd) (N : Int → Int → List Int) (c : Cur) : EX (Int × Cur) := eb (namS T n c) (fun k => if fdx (N 0) k.1 (bK B).toNat 0 = -1 then .error (3, frm T n c) else .ok (fdx (N 0) k.1 (bK B).toNat 0, k.2))
def manS (B : Brd) (G : Gam) (N : Int → Int → List Int) (c : Cur) : EX ((List Int × Int × Int × Int × Int) × Cur) :=
  eb (nmS T n (dupD B N) c) (fun a => eb (tkW T n 10 a.2) (fun c2 => eb (knS T n B N c2) (fun k => eb (tkW T n 11 k.2) (fun c4 => eb (numS T n c4 0 1) (fun t => eb (tkW T n 12 t.2) (fun c6 => eb (plcS T n (bW B) (bH B) c6) (fun p => if hld B G p.1.1 p.1.2.1 = true then .error (2, p.1.2.2) else .ok ((a.1, k.1, t.1, p.1.1, p.1.2.1), p.2))))))))
def fldS (B : Brd) (N : Int → Int → List Int) (c : Cur) : EX ((List Int × Int × Int × Int) × Cur) :=
  eb (nmS T n (dupD B N) c) (fun a => eb (tkW T n 12 a.2) (fun c2 => eb (plcS T n (bW B) (bH B) c2) (fun p => eb (tkW T n 14 p.2) (fun c4 => eb (numS T n c4 1 999) (fun v => .ok ((a.1, p.1.1, p.1.2.1, v.1), v.2))))))
end GR
theorem g_place {r : EX Cur} {s : ST} (h : RG T n r s) {W H : Int} (hW : s.1 103 0 = Int32.ofInt W) (hH : s.1 103 1 = Int32.ofInt H) (W0 : 0 ≤ W) (W5 : W ≤ 5) (H0 : 0 ≤ H) (H5 : H ≤ 5) : ∃ s', f_X10_placeTold s = some s' ∧ RPg s s' ∧ RQ (eb r (plcS T n W H)) (fun a => (s'.1 65 60 = Int32.ofInt a.1.1 ∧ s'.1 65 61 = Int32.ofInt a.1.2.1 ∧ s'.1 65 10 = Int32.ofInt a.1.2.2) ∧ (RC T n a.2 s' ∧ WDS s') ∧ 0 ≤ a.1.1 ∧ a.1.1 < W ∧ 0 ≤ a.1.2.1 ∧ a.1.2.1 < H) (fun k p => RB k p s') := by
  obtain ⟨v1, s1, q1, p1, r1⟩ := g_num h (lo := 0) (hi := W - 1) (by omega) (by omega) (by omega) (by omega)
  have hf2 : ∀ o k : Nat, ¬ (o = 65 ∧ k = 60) → (uI s1 65 60 v1).1 o k = s1.1 o k := fun o k x => by (simp only [ua, ja, u_2, u_3, j_1, j_3]; (repeat' split) <;> first | rfl | (exfalso; omega))
  have hg2 : RG T n (cu (eb r (fun c => numS T n c 0 (W - 1)))) (uI s1 65 60 v1) := RG_fr (RG_cu r1) (fun o k x => hf2 o k (by omega))
  obtain ⟨v3, s3, q3, p3, r3⟩ := g_num hg2 (lo := 0) (hi := H - 1) (by omega) (by omega) (by omega) (by omega)
  have hf4 : ∀ o k : Nat, ¬ (o = 65 ∧ k = 61) → (uI s3 65 61 v3).1 o k = s3.1 o k := fun o k x => by (simp only [ua, ja, u_2, u_3, j_1, j_3]; (repeat' split) <;> first | rfl | (exfalso; omega))
  have hH2 : (uI s1 65 60 v1).1 103 1 = Int32.ofInt H := (hf2 103 1 (by omega)).trans ((p1.1 103 1 (by omega)).trans hH)
  have P : RPg s (uI s3 65 61 v3) := ((p1.g.tr ⟨fun o k x => hf2 o k (by omega), rfl⟩).tr p3.g).tr ⟨fun o k x => hf4 o k (by omega), rfl⟩
  refine ⟨uI s3 65 61 v3, ?_, P, ?_⟩
  · have e0 : (Int32.ofInt 0).toNatClampNeg = 0 := rfl
    have e1 : (Int32.ofInt 1).toNatClampNeg = 1 := rfl
    simp (disch := omega) only [f_X10_placeTold, e0, e1, hW, hH2, n_sub, ↓bb q1, ↓bb q3, n_i8, n_i16, n_0, n_31, n_add, n_sub, n_mul, n_neg, n_div, n_rem, n_le_t, n_le_f, n_lt_t, n_lt_f, n_eq_t, n_eq_f, n_cl, n_gd, n_gdt, n_nz, Int.reduceToNat, Int.reduceAdd, Int.reduceSub, Int.reduceMul, Int.reduceNeg, Int.reduceLT, Int.reduceLE, Int.reduceEq, Int.reduceDiv, Int.reduceMod, Nat.reduceAdd, Nat.reduceMul, ↓reduceIte, ltd]
  · have h60 : (uI s3 65 61 v3).1 65 60 = v1 := (hf4 65 60 (by omega)).trans ((p3.1 65 60 (by omega)).trans (u_eq _ _ _ _))
    unfold plcS
    cases r with
    | error e =>
      exact RB_fr (r3 : RB e.1 e.2 s3) (hf4 65 5 (by omega)) (hf4 65 6 (by omega))
    | ok c =>
      rw [eb_ok] at r1 r3 ⊢
      cases e1 : numS T n c 0 (W - 1) with
      | error e =>
        rw [e1] at r3
        exact RB_fr (r3 : RB e.1 e.2 s3) (hf4 65 5 (by omega)) (hf4 65 6 (by omega))
      | ok x =>
        rw [e1] at r1 r3
        have r3 : RQ (numS T n x.2 0 (H - 1)) _ _ := r3
        rw [eb_ok]
        cases e2 : numS T n x.2 0 (H - 1) with
        | error e =>
          rw [e2] at r3
          exact RB_fr (r3 : RB e.1 e.2 s3) (hf4 65 5 (by omega)) (hf4 65 6 (by omega))
        | ok y =>
          rw [e2] at r3
          have hv1 := (numS_v e1).2.2.1
          have hv2 := (numS_v e2).2.2.1
          refine ⟨⟨?_, ?_, ?_⟩, ⟨?_, ?_⟩, hv1.1, ?_, hv2.1, ?_⟩
          · rw [h60]; exact r1.1
          · show (uI s3 65 61 v3).1 65 61 = Int32.ofInt y.1
            rw [u_eq]; exact r3.1
          · show (uI s3 65 61 v3).1 65 10 = Int32.ofInt (frm T n x.2)
            rw [hf4 65 10 (by omega)]
            exact r3.2.2 x.2 rfl
          · exact RC_fr r3.2.1.1 (hf4 65 2 (by omega)) (hf4 65 3 (by omega)) (hf4 65 4 (by omega)) (hf4 65 5 (by omega)) (hf4 65 6 (by omega)) (fun k => hf4 66 k (by omega))
          · exact WDS_fr r3.2.1.2 (fun o k ho => hf4 o k (by omega))
          · show x.1 < W
            omega
          · show y.1 < H
            omega
theorem m_nameOf_any {s : ST} {v : Int} (hc : s.1 101 0 = Int32.ofInt v) (v0 : 0 ≤ v) (v8 : v ≤ 8) (x : Int64) : ∃ k, f_X10_nameOf (Int32.ofInt 0) x s = some (k, s) := by
  have key : ∀ (m F : Nat) (i : Int), 0 ≤ i → (v - i).toNat = m → m < F → i ≤ 8 → ∃ k, f_X10_nameOf_L3 F (Int32.ofInt 0) x (Int32.ofInt i) s = some (k, s) := by
    have e0 : (Int32.ofInt 0).toNatClampNeg = 0 := rfl
    intro m
    induction m with
    | zero =>
      intro F i i0 hm hF i8
      obtain ⟨F, rfl⟩ : ∃ F', F = F' + 1 := ⟨F - 1, by omega⟩
      refine ⟨Int32.ofInt (-1), ?_⟩
      simp (disch := omega) only [f_X10_nameOf_L3, e0, hc, n_i8, n_i16, n_0, n_31, n_add, n_sub, n_mul, n_neg, n_div, n_rem, n_le_t, n_le_f, n_lt_t, n_lt_f, n_eq_t, n_eq_f, n_cl, n_gd, n_gdt, n_nz, Int.reduceToNat, Int.reduceAdd, Int.reduceSub, Int.reduceMul, Int.reduceNeg, Int.reduceLT, Int.reduceLE, Int.reduceEq, Int.reduceDiv, Int.reduceMod, Nat.reduceAdd, Nat.reduceMul, ↓reduceIte]
    | succ m ih =>
      intro F i i0 hm hF i8
      obtain ⟨F, rfl⟩ : ∃ F', F = F' + 1 := ⟨F - 1, by omega⟩
      obtain ⟨k, hk⟩ := ih F (i + 1) (by omega) (by omega) (by omega) (by omega)
      by_cases e : lg_cmp (s.2.1 102 (0 + i).toNat) x = 0
      · refine ⟨Int32.ofInt i, ?_⟩
        have e' : (lg_cmp (s.2.1 102 (0 + i).toNat) x = Int32.ofInt 0) = True := eq_true e
        rw [f_X10_nameOf_L3]
        simp (disch := omega) only [e0, hc, e', n_i8, n_i16, n_0, n_31, n_add, n_sub, n_mul, n_neg, n_div, n_rem, n_le_t, n_le_f, n_lt_t, n_lt_f, n_eq_t, n_eq_f, n_cl, n_gd, n_gdt, n_nz, Int.reduceToNat, Int.reduceAdd, Int.reduceSub, Int.reduceMul, Int.reduceNeg, Int.reduceLT, Int.reduceLE, Int.reduceEq, Int.reduceDiv, Int.reduceMod, Nat.reduceAdd, Nat.reduceMul, ↓reduceIte, ltd]
      · refine ⟨k, ?_⟩
        have e' : (lg_cmp (s.2.1 102 (0 + i).toNat) x = Int32.ofInt 0) = False := eq_false e
        rw [← hk, f_X10_nameOf_L3]
        simp (disch := omega) only [e0, hc, e', n_i8, n_i16, n_0, n_31, n_add, n_sub, n_mul, n_neg, n_div, n_rem, n_le_t, n_le_f, n_lt_t, n_lt_f, n_eq_t, n_eq_f, n_cl, n_gd, n_gdt, n_nz, Int.reduceToNat, Int.reduceAdd, Int.reduceSub, Int.reduceMul, Int.reduceNeg, Int.reduceLT, Int.reduceLE, Int.reduceEq, Int.reduceDiv, Int.reduceMod, Nat.reduceAdd, Nat.reduceMul, ↓reduceIte, ltd]
  exact key v.toNat fuel 0 (by omega) (by omega) (by unfold fuel; omega) (by omega)
/-- is the place held? -/
theorem m_held_L {x2 : Int64} {x6 x7 : Int32} {x y q : Int} (hx0 : 0 ≤ x) (hx5 : x ≤ 5) (hy0 : 0 ≤ y) (hy5 : y ≤ 5) (hV : DV B G N) : ∀ (m F : Nat) (i : Int) (s : ST), RD B G N s → s.1 65 60 = Int32.ofInt x → s.1 65 61 = Int32.ofInt y → s.1 65 10 = Int32.ofInt q → s.1 65 5 = Int32.ofInt 0 → 0 ≤ i → (bM B - i).toNat = m → m < F → i ≤ 8 → ((upto m i).any (fun m => decide (gx G m = x ∧ gy G m = y)) = false → f_X10_manTold_L93 f_X10_manTold_j160 F x2 x6 x7 (Int32.ofInt i) s = f_X10_manTold_j160 x2 x6 x7 s) ∧ ((upto m i).any (fun m => decide (gx G m = x ∧ gy G m = y)) = true → ∃ s', f_X10_manTold_L93 f_X10_manTold_j160 F x2 x6 x7 (Int32.ofInt i) s = some s' ∧ RB 2 q s' ∧ RPf s s') := by
  have hVb := hV.1.2.1
  have hWb := hV.1.1
  have e1 : (Int32.ofInt 1).toNatClampNeg = 1 := rfl
  have dead : ∀ (m F : Nat) (i : Int) (s : ST), RB 2 q s → s.1 101 1 = Int32.ofInt (bM B) → 0 ≤ i → (bM B - i).toNat = m → m < F → i ≤ 8 → f_X10_manTold_L93 f_X10_manTold_j160 F x2 x6 x7 (Int32.ofInt i) s = some s := by
    intro m
    induction m with
    | zero =>
      intro F i s hB h1 i0 hm hF i8
      obtain ⟨F, rfl⟩ : ∃ F', F = F' + 1 := ⟨F - 1, by omega⟩
      have e5 : (s.1 65 5 = Int32.ofInt 0) = False := eq_false hB.ne
      simp (disch := omega) only [f_X10_manTold_L93, f_X10_manTold_j160, e1, h1, e5, n_i8, n_i16, n_0, n_31, n_add, n_sub, n_mul, n_neg, n_div, n_rem, n_le_t, n_le_f, n_lt_t, n_lt_f, n_eq_t, n_eq_f, n_cl, n_gd, n_gdt, n_nz, Int.reduceToNat, Int.reduceAdd, Int.reduceSub, Int.reduceMul, Int.reduceNeg, Int.reduceLT, Int.reduceLE, Int.reduceEq, Int.reduceDiv, Int.reduceMod, Nat.reduceAdd, Nat.reduceMul, ↓reduceIte]
    | succ m ih =>
      intro F i s hB h1 i0 hm hF i8
      obtain ⟨F, rfl⟩ : ∃ F', F = F' + 1 := ⟨F - 1, by omega⟩
      have e5 : (s.1 65 5 = Int32.ofInt 0) = False := eq_false hB.ne
      rw [← ih F (i + 1) s hB h1 (by omega) (by omega) (by omega) (by omega), f_X10_manTold_L93]
      simp (disch := omega) only [e1, h1, e5, n_i8, n_i16, n_0, n_31, n_add, n_sub, n_mul, n_neg, n_div, n_rem, n_le_t, n_le_f, n_lt_t, n_lt_f, n_eq_t, n_eq_f, n_cl, n_gd, n_gdt, n_nz, Int.reduceToNat, Int.reduceAdd, Int.reduceSub, Int.reduceMul, Int.reduceNeg, Int.reduceLT, Int.reduceLE, Int.reduceEq, Int.reduceDiv, Int.reduceMod, Nat.reduceAdd, Nat.reduceMul, ↓reduceIte]
  intro m
  induction m with
  | zero =>
    intro F i s hD h60 h61 h10 h5 i0 hm hF i8
    obtain ⟨F, rfl⟩ : ∃ F', F = F' + 1 := ⟨F - 1, by omega⟩
    have h1 := hD.1.1.2.1
    refine ⟨fun _ => ?_, fun x => by cases x⟩
    rw [f_X10_manTold_L93]
    simp (disch := omega) only [e1, h1, n_i8, n_i16, n_0, n_31, n_add, n_sub, n_mul, n_neg, n_div, n_rem, n_le_t, n_le_f, n_lt_t, n_lt_f, n_eq_t, n_eq_f, n_cl, n_gd, n_gdt, n_nz, Int.reduceToNat, Int.reduceAdd, Int.reduceSub, Int.reduceMul, Int.reduceNeg, Int.reduceLT, Int.reduceLE, Int.reduceEq, Int.reduceDiv, Int.reduceMod, Nat.reduceAdd, Nat.reduceMul, ↓reduceIte]
  | succ m ih =>
    intro F i s hD h60 h61 h10 h5 i0 hm hF i8
    obtain ⟨F, rfl⟩ : ∃ F', F = F' + 1 := ⟨F - 1, by omega⟩
    have h1 := hD.1.1.2.1
    obtain ⟨-, -, d3, d4⟩ := hD.2.2.1 i i0 (by omega)
    obtain ⟨b1, b2, b3, b4⟩ := hV.2.2.1.1 i i0 (by omega)
    have ih := ih F (i + 1) s hD h60 h61 h10 h5 (by omega) (by omega) (by omega) (by omega)
    have eu : (upto (m + 1) i).any (fun m => decide (gx G m = x ∧ gy G m = y)) = (decide (gx G i = x ∧ gy G i = y) || (upto m (i + 1)).any (fun m => decide (gx G m = x ∧ gy G m = y))) := rfl
    rw [eu]
    by_cases ex : gx G i = x ∧ gy G i = y
    · rw [decide_eq_true ex, Bool.true_or]
      refine ⟨fun z => (by cases z), fun _ => ?_⟩
      obtain ⟨s', f1, f2, f3⟩ := m_fail (k := 2) (p := q) h5 (by omega) (by omega)
      refine ⟨s', ?_, f2, f3⟩
      rw [← dead m F (i + 1) s' f2 ((f3.1 101 1 (by omega)).trans h1) (by omega) (by omega) (by omega) (by omega), f_X10_manTold_L93]
      simp (disch := omega) only [e1, h1, h5, h60, h61, h10, d3, d4, ↓bb f1, n_i8, n_i16, n_0, n_31, n_add, n_sub, n_mul, n_neg, n_div, n_rem, n_le_t, n_le_f, n_lt_t, n_lt_f, n_eq_t, n_eq_f, n_cl, n_gd, n_gdt, n_nz, Int.reduceToNat, Int.reduceAdd, Int.reduceSub, Int.reduceMul, Int.reduceNeg, Int.reduceLT, Int.reduceLE, Int.reduceEq, Int.reduceDiv, Int.reduceMod, Nat.reduceAdd, Nat.reduceMul, ↓reduceIte, ltd]
    · rw [decide_eq_false ex, Bool.false_or]
      have es : f_X10_manTold_L93 f_X10_manTold_j160 (F + 1) x2 x6 x7 (Int32.ofInt i) s = f_X10_manTold_L93 f_X10_manTold_j160 F x2 x6 x7 (Int32.ofInt (i + 1)) s := by
        rw [f_X10_manTold_L93]
        by_cases ex2 : gx G i = x
        · simp (disch := omega) only [e1, h1, h5, h60, h61, d3, d4, n_i8, n_i16, n_0, n_31, n_add, n_sub, n_mul, n_neg, n_div, n_rem, n_le_t, n_le_f, n_lt_t, n_lt_f, n_eq_t, n_eq_f, n_cl, n_gd, n_gdt, n_nz, Int.reduceToNat, Int.reduceAdd, Int.reduceSub, Int.reduceMul, Int.reduceNeg, Int.reduceLT, Int.reduceLE, Int.reduceEq, Int.reduceDiv, Int.reduceMod, Nat.reduceAdd, Nat.reduceMul, ↓reduceIte, ltd]
        · simp (disch := omega) only [e1, h1, h5, h60, h61, d3, d4, n_i8, n_i16, n_0, n_31, n_add, n_sub, n_mul, n_neg, n_div, n_rem, n_le_t, n_le_f, n_lt_t, n_lt_f, n_eq_t, n_eq_f, n_cl, n_gd, n_gdt, n_nz, Int.reduceToNat, Int.reduceAdd, Int.reduceSub, Int.reduceMul, Int.reduceNeg, Int.reduceLT, Int.reduceLE, Int.reduceEq, Int.reduceDiv, Int.reduceMod, Nat.reduceAdd, Nat.reduceMul, ↓reduceIte, ltd]
      rw [es]
      exact ih
