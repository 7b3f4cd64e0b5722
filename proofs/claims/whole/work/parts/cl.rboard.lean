/-! L3: board of the reference -/
variable {T : Int → Int} {n : Int}
def G00 : Gam := fun _ _ => 0
def N00 : Int → Int → List Int := fun _ _ => []
theorem bz_DV {W H d e : Int} (hW : 2 ≤ W ∧ W ≤ 5) (hH : 2 ≤ H ∧ H ≤ 5) (hd : 1 ≤ d ∧ d ≤ 2) (he : 1 ≤ e ∧ e ≤ 2) : DV (bz W H d e) G00 N00 := by
  have a0 : bW (bz W H d e) = W := rfl
  have a1 : bH (bz W H d e) = H := rfl
  have a2 : bK (bz W H d e) = 0 := rfl
  have a3 : bM (bz W H d e) = 0 := rfl
  have a4 : bF (bz W H d e) = 0 := rfl
  have a5 : bGr (bz W H d e) = 0 := rfl
  have a6 : bSl (bz W H d e) = 0 := rfl
  have a7 : bHm (bz W H d e) = -1 := rfl
  have a8 : bD (bz W H d e) 0 = d := rfl
  have a9 : bD (bz W H d e) 1 = e := rfl
  refine ⟨⟨by rw [a0, a1]; omega, by rw [a2, a3, a4]; omega, by rw [a8, a9]; omega, by rw [a5, a6]; omega⟩, ⟨fun k k0 k1 => by rw [a2] at k1; omega, fun k k0 k1 => by rw [a3] at k1; omega, fun k k0 k1 => by rw [a4] at k1; omega, Or.inl a7⟩, ⟨fun k k0 k1 => by rw [a3] at k1; omega, fun k l k0 k1 => by rw [a3] at k1; omega, fun k k0 k1 => by rw [a4] at k1; omega, rfl, rfl⟩, fun k w k0 k1 w0 w1 => ?_⟩
  unfold cnt at w1
  rw [a2, a3, a4] at w1
  split at w1
  · omega
  · split at w1 <;> omega
/-- what stands in the draft before the first statement -/
def RZ (s : ST) : Prop := (s.1 101 0 = Int32.ofInt 0 ∧ s.1 101 1 = Int32.ofInt 0 ∧ s.1 101 2 = Int32.ofInt 0) ∧ (s.1 108 0 = Int32.ofInt 0 ∧ s.1 108 1 = Int32.ofInt 0) ∧ s.1 109 0 = Int32.ofInt (-1) ∧ s.1 65 56 = Int32.ofInt 0
theorem m_size {c : Cur} {s : ST} (hc : RC T n c s) (hw : WDS s) (hz : RZ s) : ∃ s', f_X10_boardTold s = some s' ∧ RDD T n (eb (sizS T n c) (fun a => eb (tkS T n 59 a.2) (fun c => .ok ((a.1, G00, N00), c)))) s' ∧ BFr s s' := by
  have hcn := hc.b.2.1
  obtain ⟨s1, q1, p1, r1⟩ := g_asks (T := T) (n := n) (r := .ok c) ⟨hc, hw⟩ (o := 68) (by unfold wce; omega)
  obtain ⟨v2, s2, q2, p2, r2⟩ := g_num r1 (lo := 2) (hi := 5) (by omega) (by omega) (by omega) (by omega)
  have f3 : ∀ o k : Nat, ¬ (o = 103 ∧ k = 0) → (uI s2 103 0 v2).1 o k = s2.1 o k := fun o k x => by (simp only [ua, ja, u_2, u_3, j_1, j_3]; (repeat' split) <;> first | rfl | (exfalso; omega))
  have r3 := RG_fr (RG_cu r2) (s' := uI s2 103 0 v2) (fun o k x => f3 o k (by omega))
  obtain ⟨s4, q4, p4, r4⟩ := g_asks r3 (o := 69) (by unfold wce; omega)
  obtain ⟨v5, s5, q5, p5, r5⟩ := g_num r4 (lo := 2) (hi := 5) (by omega) (by omega) (by omega) (by omega)
  have f6 : ∀ o k : Nat, ¬ (o = 103 ∧ k = 1) → (uI s5 103 1 v5).1 o k = s5.1 o k := fun o k x => by (simp only [ua, ja, u_2, u_3, j_1, j_3]; (repeat' split) <;> first | rfl | (exfalso; omega))
  have r6 := RG_fr (RG_cu r5) (s' := uI s5 103 1 v5) (fun o k x => f6 o k (by omega))
  obtain ⟨s7, q7, p7, r7⟩ := g_asks r6 (o := 70) (by unfold wce; omega)
  obtain ⟨v8, s8, q8, p8, r8⟩ := g_num r7 (lo := 1) (hi := 2) (by omega) (by omega) (by omega) (by omega)
  have f9 : ∀ o k : Nat, ¬ (o = 103 ∧ k = 2) → (uI s8 103 2 v8).1 o k = s8.1 o k := fun o k x => by (simp only [ua, ja, u_2, u_3, j_1, j_3]; (repeat' split) <;> first | rfl | (exfalso; omega))
  have r9 := RG_fr (RG_cu r8) (s' := uI s8 103 2 v8) (fun o k x => f9 o k (by omega))
  obtain ⟨s10, q10, p10, r10⟩ := g_asks r9 (o := 71) (by unfold wce; omega)
  obtain ⟨v11, s11, q11, p11, r11⟩ := g_num r10 (lo := 1) (hi := 2) (by omega) (by omega) (by omega) (by omega)
  have f12 : ∀ o k : Nat, ¬ (o = 103 ∧ k = 3) → (uI s11 103 3 v11).1 o k = s11.1 o k := fun o k x => by (simp only [ua, ja, u_2, u_3, j_1, j_3]; (repeat' split) <;> first | rfl | (exfalso; omega))
  have r12 := RG_fr (RG_cu r11) (s' := uI s11 103 3 v11) (fun o k x => f12 o k (by omega))
  obtain ⟨s13, q13, p13, r13⟩ := g_asign r12 (ch := 59) (by omega) (by omega)
  have ec0 : (Int32.ofInt 0).toNatClampNeg = 0 := rfl
  have ec1 : (Int32.ofInt 1).toNatClampNeg = 1 := rfl
  have ec2 : (Int32.ofInt 2).toNatClampNeg = 2 := rfl
  have ec3 : (Int32.ofInt 3).toNatClampNeg = 3 := rfl
  have frb : ∀ o k : Nat, ¬ (o = 103 ∧ k < 4) → ¬ (o = 65 ∧ (k = 2 ∨ k = 4 ∨ k = 5 ∨ k = 6 ∨ k = 10 ∨ k = 44)) → s13.1 o k = s.1 o k := fun o k x y => by
    rw [p13.1 o k y, f12 o k (by omega), p11.1 o k y, p10.1 o k y, f9 o k (by omega), p8.1 o k y, p7.1 o k y, f6 o k (by omega), p5.1 o k y, p4.1 o k y, f3 o k (by omega), p2.1 o k y, p1.1 o k y]
  have frl : s13.2 = s.2 := by
    rw [p13.2]
    show s11.2 = s.2
    rw [p11.2, p10.2]
    show s8.2 = s.2
    rw [p8.2, p7.2]
    show s5.2 = s.2
    rw [p5.2, p4.2]
    show s2.2 = s.2
    rw [p2.2, p1.2]
  refine ⟨s13, ?_, ?_, ⟨fun o k x => frb o k (by unfold LO at x; omega) (by unfold LO at x; omega), fun o k _ => by rw [frl], by rw [frl]⟩⟩
  · simp (disch := omega) only [f_X10_boardTold, ↓bb q1, ↓bb q2, ↓bb q4, ↓bb q5, ↓bb q7, ↓bb q8, ↓bb q10, ↓bb q11, ↓bb q13, ec0, ec1, ec2, ec3, n_i8, n_i16, n_0, n_31, n_add, n_sub, n_mul, n_neg, n_div, n_rem, n_le_t, n_le_f, n_lt_t, n_lt_f, n_eq_t, n_eq_f, n_cl, n_gd, n_gdt, n_nz, Int.reduceToNat, Int.reduceAdd, Int.reduceSub, Int.reduceMul, Int.reduceNeg, Int.reduceLT, Int.reduceLE, Int.reduceEq, Int.reduceDiv, Int.reduceMod, Nat.reduceAdd, Nat.reduceMul, ↓reduceIte, ltd]
  · simp only [eb_ok, show wno 68 = 0 from rfl, show wno 69 = 1 from rfl, show wno 70 = 2 from rfl, show wno 71 = 3 from rfl] at r2 r5 r8 r11 r13
    unfold sizS
    cases e1 : tkW T n 0 c with
    | error x => simp only [e1, cu, eb_er] at r13; exact r13
    | ok c1 =>
    cases e2 : numS T n c1 2 5 with
    | error x => simp only [e1, e2, cu, eb_ok, eb_er] at r13 ⊢; exact r13
    | ok a2 =>
    cases e3 : tkW T n 1 a2.2 with
    | error x => simp only [e1, e2, e3, cu, eb_ok, eb_er] at r13 ⊢; exact r13
    | ok c3 =>
    cases e4 : numS T n c3 2 5 with
    | error x => simp only [e1, e2, e3, e4, cu, eb_ok, eb_er] at r13 ⊢; exact r13
    | ok a4 =>
    cases e5 : tkW T n 2 a4.2 with
    | error x => simp only [e1, e2, e3, e4, e5, cu, eb_ok, eb_er] at r13 ⊢; exact r13
    | ok c5 =>
    cases e6 : numS T n c5 1 2 with
    | error x => simp only [e1, e2, e3, e4, e5, e6, cu, eb_ok, eb_er] at r13 ⊢; exact r13
    | ok a6 =>
    cases e7 : tkW T n 3 a6.2 with
    | error x => simp only [e1, e2, e3, e4, e5, e6, e7, cu, eb_ok, eb_er] at r13 ⊢; exact r13
    | ok c7 =>
    cases e8 : numS T n c7 1 2 with
    | error x => simp only [e1, e2, e3, e4, e5, e6, e7, e8, cu, eb_ok, eb_er] at r13 ⊢; exact r13
    | ok a8 =>
    simp only [e1, e2, e3, e4, e5, e6, e7, e8, cu, eb_ok] at r2 r5 r8 r11 r13 ⊢
    cases e9 : tkS T n 59 a8.2 with
    | error x => rw [e9] at r13; exact r13
    | ok c9 =>
    rw [e9] at r13
    obtain ⟨u1, u2⟩ := (r13 : RC T n c9 s13 ∧ WDS s13)
    have w2 : v2 = Int32.ofInt a2.1 := r2.1
    have w4 : v5 = Int32.ofInt a4.1 := r5.1
    have w6 : v8 = Int32.ofInt a6.1 := r8.1
    have w8 : v11 = Int32.ofInt a8.1 := r11.1
    have hV := bz_DV (numS_v e2).2.2.1 (numS_v e4).2.2.1 (numS_v e6).2.2.1 (numS_v e8).2.2.1
    have c0 : s13.1 103 0 = v2 := by rw [p13.1 _ _ (by omega), f12 _ _ (by omega), p11.1 _ _ (by omega), p10.1 _ _ (by omega), f9 _ _ (by omega), p8.1 _ _ (by omega), p7.1 _ _ (by omega), f6 _ _ (by omega), p5.1 _ _ (by omega), p4.1 _ _ (by omega), u_eq]
    have c1' : s13.1 103 1 = v5 := by rw [p13.1 _ _ (by omega), f12 _ _ (by omega), p11.1 _ _ (by omega), p10.1 _ _ (by omega), f9 _ _ (by omega), p8.1 _ _ (by omega), p7.1 _ _ (by omega), u_eq]
    have c2' : s13.1 103 2 = v8 := by rw [p13.1 _ _ (by omega), f12 _ _ (by omega), p11.1 _ _ (by omega), p10.1 _ _ (by omega), u_eq]
    have c3' : s13.1 103 3 = v11 := by rw [p13.1 _ _ (by omega), u_eq]
    obtain ⟨⟨z1, z2, z3⟩, ⟨z4, z5⟩, z6, z7⟩ := hz
    have nn : ∀ k w : Int, 0 ≤ k → k ≤ 2 → 0 ≤ w → ¬ w < cnt (bz a2.1 a4.1 a6.1 a8.1) k := fun k w k0 k1 w0 w1 => by
      unfold cnt at w1
      have a2' : bK (bz a2.1 a4.1 a6.1 a8.1) = 0 := rfl
      have a3' : bM (bz a2.1 a4.1 a6.1 a8.1) = 0 := rfl
      have a4' : bF (bz a2.1 a4.1 a6.1 a8.1) = 0 := rfl
      rw [a2', a3', a4'] at w1
      split at w1
      · omega
      · split at w1 <;> omega
    refine ⟨⟨hV, ⟨⟨⟨?_, ?_, ?_⟩, ⟨?_, ?_, ?_, ?_⟩, ?_, ?_⟩, fun k k0 k1 => ?_, fun k k0 k1 => ?_, fun k k0 k1 => ?_, Or.inl ⟨rfl, ?_, ?_⟩, fun k w k0 k1 w0 w1 => absurd w1 (nn k w k0 k1 w0)⟩⟩, u1, u2⟩
    · exact (frb 101 0 (by omega) (by omega)).trans z1
    · exact (frb 101 1 (by omega) (by omega)).trans z2
    · exact (frb 101 2 (by omega) (by omega)).trans z3
    · exact c0.trans w2
    · exact c1'.trans w4
    · exact c2'.trans w6
    · exact c3'.trans w8
    · exact (frb 108 0 (by omega) (by omega)).trans z4
    · exact (frb 108 1 (by omega) (by omega)).trans z5
    · exact absurd k1 (by show ¬ k < 0; omega)
    · exact absurd k1 (by show ¬ k < 0; omega)
    · exact absurd k1 (by show ¬ k < 0; omega)
    · exact (frb 109 0 (by omega) (by omega)).trans z6
    · exact (frb 65 56 (by omega) (by omega)).trans z7
