/-! L3: the reference reads men and fields, to the end -/
variable {T : Int → Int} {n : Int} {B : Brd} {G : Gam} {N : Int → Int → List Int}
def gMn (G : Gam) (m x y : Int) : Gam := sB (sB G 1 m x) 2 m y
def gFd (G : Gam) (f v : Int) : Gam := sB G 3 f v
theorem gMn_o {m x y : Int} {i : Nat} {j : Int} (h : ¬ (1 ≤ i ∧ i ≤ 2 ∧ j = m)) : gMn G m x y i j = G i j := by
  unfold gMn sB
  (repeat' split) <;> first | rfl | (exfalso; omega)
theorem gFd_o {f v : Int} {i : Nat} {j : Int} (h : ¬ (i = 3 ∧ j = f)) : gFd G f v i j = G i j := by
  unfold gFd sB
  (repeat' split) <;> first | rfl | (exfalso; omega)
theorem gMn_n {m x y : Int} : gx (gMn G m x y) m = x ∧ gy (gMn G m x y) m = y := by
  refine ⟨?_, ?_⟩
  · show gMn G m x y 1 m = x
    unfold gMn
    rw [sB_i (by omega), sB_e rfl rfl]
  · show gMn G m x y 2 m = y
    unfold gMn
    rw [sB_e rfl rfl]
theorem gFd_n {f v : Int} : gb (gFd G f v) f = v := by
  show gFd G f v 3 f = v
  unfold gFd
  rw [sB_e rfl rfl]
theorem RD_M {k t x y : Int} {nm : List Int} {s s' : ST} (hV : DV B G N) (h : RD B G N s) (hK : bM B < 8) (hn : NV nm) (hf : ∀ a j : Nat, (101 ≤ a ∧ a ≤ 111) ∨ (a = 65 ∧ j = 56) → ¬ (a = 101 ∧ j = 1) → ¬ (a = 105 ∧ 2 * bM B ≤ (j : Int) ∧ (j : Int) < 16) → ¬ (a = 106 ∧ 2 * bM B ≤ (j : Int)) → s'.1 a j = s.1 a j) (c1 : s'.1 101 1 = Int32.ofInt (bM B + 1)) (c2 : s'.1 105 (2 * bM B).toNat = Int32.ofInt k) (c3 : s'.1 105 (2 * bM B + 1).toNat = Int32.ofInt t) (c4 : s'.1 106 (2 * bM B).toNat = Int32.ofInt x) (c5 : s'.1 106 (2 * bM B + 1).toNat = Int32.ofInt y) (h1 : s'.2.1 102 (8 * 1 + bM B).toNat = Int64.ofInt (b27 nm)) (h2 : ∀ j : Nat, ¬ j = (8 * 1 + bM B).toNat → s'.2.1 102 j = s.2.1 102 j) : RD (addM B k t) (gMn G (bM B) x y) (adN N 1 (bM B) nm) s' := by
  have hVb := hV.1.2.1
  have hcb := cnt_b hV
  obtain ⟨n1, n2, n3⟩ := addM_n (B := B) (k := k) (t := t)
  obtain ⟨g1, g2⟩ := gMn_n (G := G) (m := bM B) (x := x) (y := y)
  have zK : bK (addM B k t) = bK B := addM_o (by omega) (by omega)
  have zF : bF (addM B k t) = bF B := addM_o (by omega) (by omega)
  obtain ⟨⟨⟨a1, a2, a3⟩, ⟨a4, a5, a6, a7⟩, a8, a9⟩, b1, b2, b3, b4, b5⟩ := h
  refine ⟨⟨⟨by rw [zK]; exact (hf _ _ (by omega) (by omega) (by omega) (by omega)).trans a1, by rw [n1]; exact c1, by rw [zF]; exact (hf _ _ (by omega) (by omega) (by omega) (by omega)).trans a3⟩, ⟨(hf _ _ (by omega) (by omega) (by omega) (by omega)).trans (by rw [a4, show bW (addM B k t) = bW B from addM_o (by omega) (by omega)]), (hf _ _ (by omega) (by omega) (by omega) (by omega)).trans (by rw [a5, show bH (addM B k t) = bH B from addM_o (by omega) (by omega)]), (hf _ _ (by omega) (by omega) (by omega) (by omega)).trans (by rw [a6, show bD (addM B k t) 0 = bD B 0 from addM_o (by omega) (by omega)]), (hf _ _ (by omega) (by omega) (by omega) (by omega)).trans (by rw [a7, show bD (addM B k t) 1 = bD B 1 from addM_o (by omega) (by omega)])⟩, (hf _ _ (by omega) (by omega) (by omega) (by omega)).trans (by rw [a8, show bGr (addM B k t) = bGr B from addM_o (by omega) (by omega)]), (hf _ _ (by omega) (by omega) (by omega) (by omega)).trans (by rw [a9, show bSl (addM B k t) = bSl B from addM_o (by omega) (by omega)])⟩, fun q k0 k1 => ?_, fun q k0 k1 => ?_, fun q k0 k1 => ?_, ?_, ?_⟩
  · rw [zK] at k1
    obtain ⟨d1, d2, d3, d4⟩ := b1 q k0 k1
    rw [show wy (addM B k t) q = wy B q from addM_o (by omega) (by omega), show rch (addM B k t) q = rch B q from addM_o (by omega) (by omega), show wo (addM B k t) q = wo B q from addM_o (by omega) (by omega), show cr (addM B k t) q = cr B q from addM_o (by omega) (by omega)]
    exact ⟨(hf _ _ (by omega) (by omega) (by omega) (by omega)).trans d1, (hf _ _ (by omega) (by omega) (by omega) (by omega)).trans d2, (hf _ _ (by omega) (by omega) (by omega) (by omega)).trans d3, (hf _ _ (by omega) (by omega) (by omega) (by omega)).trans d4⟩
  · rw [n1] at k1
    by_cases e : q = bM B
    · subst e
      rw [n2, n3, g1, g2]
      exact ⟨c2, c3, c4, c5⟩
    · obtain ⟨d1, d2, d3, d4⟩ := b2 q k0 (by omega)
      rw [show kd (addM B k t) q = kd B q from addM_o (by omega) (by omega), show sd (addM B k t) q = sd B q from addM_o (by omega) (by omega), show gx (gMn G (bM B) x y) q = gx G q from gMn_o (by omega), show gy (gMn G (bM B) x y) q = gy G q from gMn_o (by omega)]
      exact ⟨(hf _ _ (by omega) (by omega) (by omega) (by omega)).trans d1, (hf _ _ (by omega) (by omega) (by omega) (by omega)).trans d2, (hf _ _ (by omega) (by omega) (by omega) (by omega)).trans d3, (hf _ _ (by omega) (by omega) (by omega) (by omega)).trans d4⟩
  · rw [zF] at k1
    obtain ⟨d1, d2, d3⟩ := b3 q k0 k1
    rw [show fx (addM B k t) q = fx B q from addM_o (by omega) (by omega), show fy (addM B k t) q = fy B q from addM_o (by omega) (by omega), show gb (gMn G (bM B) x y) q = gb G q from gMn_o (by omega)]
    exact ⟨(hf _ _ (by omega) (by omega) (by omega) (by omega)).trans d1, (hf _ _ (by omega) (by omega) (by omega) (by omega)).trans d2, (hf _ _ (by omega) (by omega) (by omega) (by omega)).trans d3⟩
  · have zH : bHm (addM B k t) = bHm B := addM_o (by omega) (by omega)
    unfold RDh
    rw [zH]
    rcases b4 with ⟨d1, d2, d3⟩ | ⟨d1, d2, d3, d4, d5, d6⟩
    · exact Or.inl ⟨d1, (hf _ _ (by omega) (by omega) (by omega) (by omega)).trans d2, (hf _ _ (by omega) (by omega) (by omega) (by omega)).trans d3⟩
    · exact Or.inr ⟨d1, d2, (hf _ _ (by omega) (by omega) (by omega) (by omega)).trans d3, (hf _ _ (by omega) (by omega) (by omega) (by omega)).trans d4, (hf _ _ (by omega) (by omega) (by omega) (by omega)).trans d5, fun i i0 i1 => (hf _ _ (by omega) (by omega) (by omega) (by omega)).trans ((d6 i i0 i1).trans (by rw [show hcd (addM B k t) i = hcd B i from addM_o (by omega) (by omega)]))⟩
  · have e0 : cnt B 1 = bM B := rfl
    have := RDn_a (B' := addM B k t) (k := 1) b5 (by omega) (by omega) (fun j j0 j1 => by
      have : j = 0 ∨ j = 1 ∨ j = 2 := by omega
      rcases this with rfl | rfl | rfl
      · exact zK
      · exact n1
      · exact zF) hn hcb (by rw [e0]; omega) h1 h2
    exact this
theorem RD_F {x y v : Int} {nm : List Int} {s s' : ST} (hV : DV B G N) (h : RD B G N s) (hK : bF B < 6) (hn : NV nm) (hf : ∀ a j : Nat, (101 ≤ a ∧ a ≤ 111) ∨ (a = 65 ∧ j = 56) → ¬ (a = 101 ∧ j = 2) → ¬ (a = 107 ∧ 3 * bF B ≤ (j : Int) ∧ (j : Int) < 18) → s'.1 a j = s.1 a j) (c1 : s'.1 101 2 = Int32.ofInt (bF B + 1)) (c2 : s'.1 107 (3 * bF B).toNat = Int32.ofInt x) (c3 : s'.1 107 (3 * bF B + 1).toNat = Int32.ofInt y) (c4 : s'.1 107 (3 * bF B + 2).toNat = Int32.ofInt v) (h1 : s'.2.1 102 (8 * 2 + bF B).toNat = Int64.ofInt (b27 nm)) (h2 : ∀ j : Nat, ¬ j = (8 * 2 + bF B).toNat → s'.2.1 102 j = s.2.1 102 j) : RD (addF B x y) (gFd G (bF B) v) (adN N 2 (bF B) nm) s' := by
  have hVb := hV.1.2.1
  have hcb := cnt_b hV
  obtain ⟨n1, n2, n3⟩ := addF_n (B := B) (x := x) (y := y)
  have g1 := gFd_n (G := G) (f := bF B) (v := v)
  have zK : bK (addF B x y) = bK B := addF_o (by omega) (by omega)
  have zM : bM (addF B x y) = bM B := addF_o (by omega) (by omega)
  obtain ⟨⟨⟨a1, a2, a3⟩, ⟨a4, a5, a6, a7⟩, a8, a9⟩, b1, b2, b3, b4, b5⟩ := h
  refine ⟨⟨⟨by rw [zK]; exact (hf _ _ (by omega) (by omega) (by omega)).trans a1, by rw [zM]; exact (hf _ _ (by omega) (by omega) (by omega)).trans a2, by rw [n1]; exact c1⟩, ⟨(hf _ _ (by omega) (by omega) (by omega)).trans (by rw [a4, show bW (addF B x y) = bW B from addF_o (by omega) (by omega)]), (hf _ _ (by omega) (by omega) (by omega)).trans (by rw [a5, show bH (addF B x y) = bH B from addF_o (by omega) (by omega)]), (hf _ _ (by omega) (by omega) (by omega)).trans (by rw [a6, show bD (addF B x y) 0 = bD B 0 from addF_o (by omega) (by omega)]), (hf _ _ (by omega) (by omega) (by omega)).trans (by rw [a7, show bD (addF B x y) 1 = bD B 1 from addF_o (by omega) (by omega)])⟩, (hf _ _ (by omega) (by omega) (by omega)).trans (by rw [a8, show bGr (addF B x y) = bGr B from addF_o (by omega) (by omega)]), (hf _ _ (by omega) (by omega) (by omega)).trans (by rw [a9, show bSl (addF B x y) = bSl B from addF_o (by omega) (by omega)])⟩, fun q k0 k1 => ?_, fun q k0 k1 => ?_, fun q k0 k1 => ?_, ?_, ?_⟩
  · rw [zK] at k1
    obtain ⟨d1, d2, d3, d4⟩ := b1 q k0 k1
    rw [show wy (addF B x y) q = wy B q from addF_o (by omega) (by omega), show rch (addF B x y) q = rch B q from addF_o (by omega) (by omega), show wo (addF B x y) q = wo B q from addF_o (by omega) (by omega), show cr (addF B x y) q = cr B q from addF_o (by omega) (by omega)]
    exact ⟨(hf _ _ (by omega) (by omega) (by omega)).trans d1, (hf _ _ (by omega) (by omega) (by omega)).trans d2, (hf _ _ (by omega) (by omega) (by omega)).trans d3, (hf _ _ (by omega) (by omega) (by omega)).trans d4⟩
  · rw [zM] at k1
    obtain ⟨d1, d2, d3, d4⟩ := b2 q k0 k1
    rw [show kd (addF B x y) q = kd B q from addF_o (by omega) (by omega), show sd (addF B x y) q = sd B q from addF_o (by omega) (by omega), show gx (gFd G (bF B) v) q = gx G q from gFd_o (by omega), show gy (gFd G (bF B) v) q = gy G q from gFd_o (by omega)]
    exact ⟨(hf _ _ (by omega) (by omega) (by omega)).trans d1, (hf _ _ (by omega) (by omega) (by omega)).trans d2, (hf _ _ (by omega) (by omega) (by omega)).trans d3, (hf _ _ (by omega) (by omega) (by omega)).trans d4⟩
  · rw [n1] at k1
    by_cases e : q = bF B
    · subst e
      rw [n2, n3, g1]
      exact ⟨c2, c3, c4⟩
    · obtain ⟨d1, d2, d3⟩ := b3 q k0 (by omega)
      rw [show fx (addF B x y) q = fx B q from addF_o (by omega) (by omega), show fy (addF B x y) q = fy B q from addF_o (by omega) (by omega), show gb (gFd G (bF B) v) q = gb G q from gFd_o (by omega)]
      exact ⟨(hf _ _ (by omega) (by omega) (by omega)).trans d1, (hf _ _ (by omega) (by omega) (by omega)).trans d2, (hf _ _ (by omega) (by omega) (by omega)).trans d3⟩
  · have zH : bHm (addF B x y) = bHm B := addF_o (by omega) (by omega)
    unfold RDh
    rw [zH]
    rcases b4 with ⟨d1, d2, d3⟩ | ⟨d1, d2, d3, d4, d5, d6⟩
    · exact Or.inl ⟨d1, (hf _ _ (by omega) (by omega) (by omega)).trans d2, (hf _ _ (by omega) (by omega) (by omega)).trans d3⟩
    · exact Or.inr ⟨d1, d2, (hf _ _ (by omega) (by omega) (by omega)).trans d3, (hf _ _ (by omega) (by omega) (by omega)).trans d4, (hf _ _ (by omega) (by omega) (by omega)).trans d5, fun i i0 i1 => (hf _ _ (by omega) (by omega) (by omega)).trans ((d6 i i0 i1).trans (by rw [show hcd (addF B x y) i = hcd B i from addF_o (by omega) (by omega)]))⟩
  · have e0 : cnt B 2 = bF B := rfl
    have := RDn_a (B' := addF B x y) (k := 2) b5 (by omega) (by omega) (fun j j0 j1 => by
      have : j = 0 ∨ j = 1 ∨ j = 2 := by omega
      rcases this with rfl | rfl | rfl
      · exact zK
      · exact zM
      · exact n1) hn hcb (by rw [e0]; omega) h1 h2
    exact this
theorem m_manT {c : Cur} {s : ST} {bg : Int} (hV : DV B G N) (hD : RD B G N s) (hc : RC T n c s) (hw : WDS s) : ∃ s', f_X10_manTold (Int32.ofInt bg) s = some s' ∧ BFr s s' ∧ (bM B = 8 → RB 5 bg s') ∧ (¬ bM B = 8 → RQ (manS T n B G N c) (fun a => RD (addM B a.1.2.1 a.1.2.2.1) (gMn G (bM B) a.1.2.2.2.1 a.1.2.2.2.2) (adN N 1 (bM B) a.1.1) s' ∧ (NV a.1.1 ∧ (0 ≤ a.1.2.1 ∧ a.1.2.1 < bK B) ∧ (0 ≤ a.1.2.2.1 ∧ a.1.2.2.1 ≤ 1) ∧ (0 ≤ a.1.2.2.2.1 ∧ a.1.2.2.2.1 < bW B ∧ 0 ≤ a.1.2.2.2.2 ∧ a.1.2.2.2.2 < bH B) ∧ hld B G a.1.2.2.2.1 a.1.2.2.2.2 = false) ∧ RC T n a.2 s' ∧ WDS s') (fun k p => RB k p s')) := by
  have h5 := hc.b.1
  have hVb := hV.1.2.1
  have hWb := hV.1.1
  have hcn := hc.b.2.1
  obtain ⟨fu1, fu2⟩ := m_full (room := 8) (bg := bg) (k := 1) h5 (by omega) (by omega) hD.1.1.2.1 (by omega) (by omega) (by omega) (by omega)
  by_cases e8 : bM B = 8
  · obtain ⟨s', q1, q2, q3⟩ := fu2 e8
    refine ⟨s', ?_, q3.b, fun _ => q2, fun x => absurd e8 x⟩
    simp (disch := omega) only [f_X10_manTold, ↓bb q1, n_i8, n_i16, n_0, n_31, n_add, n_sub, n_mul, n_neg, n_div, n_rem, n_le_t, n_le_f, n_lt_t, n_lt_f, n_eq_t, n_eq_f, n_cl, n_gd, n_gdt, n_nz, Int.reduceToNat, Int.reduceAdd, Int.reduceSub, Int.reduceMul, Int.reduceNeg, Int.reduceLT, Int.reduceLE, Int.reduceEq, Int.reduceDiv, Int.reduceMod, Nat.reduceAdd, Nat.reduceMul, ↓reduceIte]
  · have fu1 := fu1 e8
    obtain ⟨v1, s1, q1, p1, r1⟩ := m_newName hV hD hc hw
    obtain ⟨s2, q2, p2, r2⟩ := g_asks (RG_cun r1) (o := 78) (by unfold wce; omega)
    have hD2 := RD_p hD (p1.tr p2)
    -- the kind's name
    have hk : ∃ (ki : Int32) (s3 : ST), (f_X10_name s2).bind (fun q5 => (f_X10_nameOf (Int32.ofInt 0) q5.1 q5.2).bind (fun q6 => (if (q6.2.1 65 5) = 0 then (if q6.1 = (Int32.ofInt (-1)) then (f_X10_fail (Int32.ofInt 3) (q6.2.1 65 44) q6.2).bind (fun q9 => f_X10_manTold_j62 v1 q6.1 q9) else f_X10_manTold_j62 v1 q6.1 q6.2) else f_X10_manTold_j62 v1 q6.1 q6.2))) = f_X10_manTold_j62 v1 ki s3 ∧ RPf s2 s3 ∧ RQ (eb (eb (cu (nmS T n (dupD B N) c)) (tkW T n (wno 78))) (knS T n B N)) (fun a => ki = Int32.ofInt a.1 ∧ (RC T n a.2 s3 ∧ WDS s3) ∧ (0 ≤ a.1 ∧ a.1 < bK B)) (fun k p => RB k p s3) := by
      cases eR : eb (cu (nmS T n (dupD B N) c)) (tkW T n (wno 78)) with
      | error x =>
        have hB := RG_b r2 eR
        obtain ⟨ki, hki⟩ := m_nameOf_any hD2.1.1.1 hVb.1 (by omega) (Int64.ofNat ((0 : Fin 2) : Nat))
        have hnb := m_nameB hB
        have e5 : (s2.1 65 5 = Int32.ofInt 0) = False := eq_false hB.ne
        refine ⟨ki, s2, ?_, RPf.rf s2, hB⟩
        simp (disch := omega) only [↓bb hnb, ↓bb hki, e5, n_i8, n_i16, n_0, n_31, n_add, n_sub, n_mul, n_neg, n_div, n_rem, n_le_t, n_le_f, n_lt_t, n_lt_f, n_eq_t, n_eq_f, n_cl, n_gd, n_gdt, n_nz, Int.reduceToNat, Int.reduceAdd, Int.reduceSub, Int.reduceMul, Int.reduceNeg, Int.reduceLT, Int.reduceLE, Int.reduceEq, Int.reduceDiv, Int.reduceMod, Nat.reduceAdd, Nat.reduceMul, ↓reduceIte]
      | ok c2 =>
        obtain ⟨hc2, hw2⟩ := RG_o r2 eR
        have hcb2 := hc2.b.2.1
        obtain ⟨v3, s3, q3, p3, r3⟩ := m_name hc2 hw2
        have hD3 := RD_p hD2 p3
        rw [eb_ok]
        unfold knS
        cases eN : namS T n c2 with
        | error x =>
          rw [eN] at r3
          have hB : RB x.1 x.2 s3 := r3
          obtain ⟨ki, hki⟩ := m_nameOf_any hD3.1.1.1 hVb.1 (by omega) v3
          have e5 : (s3.1 65 5 = Int32.ofInt 0) = False := eq_false hB.ne
          refine ⟨ki, s3, ?_, p3, hB⟩
          simp (disch := omega) only [↓bb q3, ↓bb hki, e5, n_i8, n_i16, n_0, n_31, n_add, n_sub, n_mul, n_neg, n_div, n_rem, n_le_t, n_le_f, n_lt_t, n_lt_f, n_eq_t, n_eq_f, n_cl, n_gd, n_gdt, n_nz, Int.reduceToNat, Int.reduceAdd, Int.reduceSub, Int.reduceMul, Int.reduceNeg, Int.reduceLT, Int.reduceLE, Int.reduceEq, Int.reduceDiv, Int.reduceMod, Nat.reduceAdd, Nat.reduceMul, ↓reduceIte]
        | ok a =>
          rw [eN] at r3
          obtain ⟨u1, u2, u3⟩ := (r3 : v3 = Int64.ofInt (b27 a.1) ∧ RC T n a.2 s3 ∧ s3.1 65 44 = Int32.ofInt (frm T n c2))
          obtain ⟨hNV, -, -⟩ := namS_v eN (by omega) (by omega)
          have h53 := u2.b.1
          have hno := m_nameOf hD3.2.2.2.2.2 (k := 0) (by omega) (by omega) hD3.1.1.1 (cnt_b hV 0).1 (cnt_b hV 0).2 hNV
          have hfb := fdx_b (f := N 0) (nm := a.1) (bK B).toNat 0 (by omega)
          have hno : f_X10_nameOf (Int32.ofInt 0) (Int64.ofInt (b27 a.1)) s3 = some (Int32.ofInt (fdx (N 0) a.1 (bK B).toNat 0), s3) := hno
          subst u1
          rw [eb_ok]
          by_cases ek : fdx (N 0) a.1 (bK B).toNat 0 = -1
          · rw [if_pos ek]
            rw [ek] at hno
            obtain ⟨s4, f1, f2, f3⟩ := m_fail (k := 3) (p := frm T n c2) h53 (by omega) (by omega)
            refine ⟨Int32.ofInt (-1), s4, ?_, p3.tr f3, f2⟩
            simp (disch := omega) only [↓bb q3, ↓bb hno, h53, u3, ↓bb f1, n_i8, n_i16, n_0, n_31, n_add, n_sub, n_mul, n_neg, n_div, n_rem, n_le_t, n_le_f, n_lt_t, n_lt_f, n_eq_t, n_eq_f, n_cl, n_gd, n_gdt, n_nz, Int.reduceToNat, Int.reduceAdd, Int.reduceSub, Int.reduceMul, Int.reduceNeg, Int.reduceLT, Int.reduceLE, Int.reduceEq, Int.reduceDiv, Int.reduceMod, Nat.reduceAdd, Nat.reduceMul, ↓reduceIte]
          · rw [if_neg ek]
            refine ⟨Int32.ofInt (fdx (N 0) a.1 (bK B).toNat 0), s3, ?_, p3, rfl, ⟨u2, WDS_p hw2 p3⟩, ?_⟩
            · simp (disch := omega) only [↓bb q3, ↓bb hno, h53, n_i8, n_i16, n_0, n_31, n_add, n_sub, n_mul, n_neg, n_div, n_rem, n_le_t, n_le_f, n_lt_t, n_lt_f, n_eq_t, n_eq_f, n_cl, n_gd, n_gdt, n_nz, Int.reduceToNat, Int.reduceAdd, Int.reduceSub, Int.reduceMul, Int.reduceNeg, Int.reduceLT, Int.reduceLE, Int.reduceEq, Int.reduceDiv, Int.reduceMod, Nat.reduceAdd, Nat.reduceMul, ↓reduceIte]
            · show 0 ≤ fdx (N 0) a.1 (bK B).toNat 0 ∧ fdx (N 0) a.1 (bK B).toNat 0 < bK B
              omega
    obtain ⟨ki, s3, q3, p3, r3⟩ := hk
    have hD3 := RD_p hD2 p3
    obtain ⟨s4, q4, p4, r4⟩ := g_asks (RG_cu r3) (o := 79) (by unfold wce; omega)
    obtain ⟨v5, s5, q5, p5, r5⟩ := g_num r4 (lo := 0) (hi := 1) (by omega) (by omega) (by omega) (by omega)
    obtain ⟨s6, q6, p6, r6⟩ := g_asks (RG_cu r5) (o := 80) (by unfold wce; omega)
    have hD6 := RD_p hD3 ((p4.tr p5).tr p6)
    obtain ⟨s7, q7, p7, r7⟩ := g_place r6 hD6.1.2.1.1 hD6.1.2.1.2.1 (by omega) hWb.2.1 (by omega) hWb.2.2.2
    have hD7 := RD_g hD6 p7
    have P : RPg s s7 := ((((((p1.tr p2).tr p3).tr p4).tr p5).tr p6).g).tr p7
    have ef : f_X10_manTold (Int32.ofInt bg) s = f_X10_manTold_L93 f_X10_manTold_j160 fuel v1 ki v5 (Int32.ofInt 0) s7 := by
      have ej : f_X10_manTold_j62 v1 ki s3 = f_X10_manTold_L93 f_X10_manTold_j160 fuel v1 ki v5 (Int32.ofInt 0) s7 := by
        simp (disch := omega) only [f_X10_manTold_j62, ↓bb q4, ↓bb q5, ↓bb q6, ↓bb q7]
      rw [← ej, ← q3]
      simp (disch := omega) only [f_X10_manTold, ↓bb fu1, ↓bb q1, ↓bb q2, n_i8, n_i16, n_0, n_31, n_add, n_sub, n_mul, n_neg, n_div, n_rem, n_le_t, n_le_f, n_lt_t, n_lt_f, n_eq_t, n_eq_f, n_cl, n_gd, n_gdt, n_nz, Int.reduceToNat, Int.reduceAdd, Int.reduceSub, Int.reduceMul, Int.reduceNeg, Int.reduceLT, Int.reduceLE, Int.reduceEq, Int.reduceDiv, Int.reduceMod, Nat.reduceAdd, Nat.reduceMul, ↓reduceIte]
    rw [ef]
    have bad : ∀ e : Int × Int, RB e.1 e.2 s7 → manS T n B G N c = .error e → ∃ s', f_X10_manTold_L93 f_X10_manTold_j160 fuel v1 ki v5 (Int32.ofInt 0) s7 = some s' ∧ BFr s s' ∧ (bM B = 8 → RB 5 bg s') ∧ (¬ bM B = 8 → RQ (manS T n B G N c) (fun a => RD (addM B a.1.2.1 a.1.2.2.1) (gMn G (bM B) a.1.2.2.2.1 a.1.2.2.2.2) (adN N 1 (bM B) a.1.1) s' ∧ (NV a.1.1 ∧ (0 ≤ a.1.2.1 ∧ a.1.2.1 < bK B) ∧ (0 ≤ a.1.2.2.1 ∧ a.1.2.2.1 ≤ 1) ∧ (0 ≤ a.1.2.2.2.1 ∧ a.1.2.2.2.1 < bW B ∧ 0 ≤ a.1.2.2.2.2 ∧ a.1.2.2.2.2 < bH B) ∧ hld B G a.1.2.2.2.1 a.1.2.2.2.2 = false) ∧ RC T n a.2 s' ∧ WDS s') (fun k p => RB k p s')) := by
      intro e hB he
      refine ⟨s7, ?_, P.b, fun x => absurd x e8, fun _ => by rw [he]; exact hB⟩
      have h1 := hD7.1.1.2.1
      have e1 : (Int32.ofInt 1).toNatClampNeg = 1 := rfl
      have e5 : (s7.1 65 5 = Int32.ofInt 0) = False := eq_false hB.ne
      have dead : ∀ (m F : Nat) (i : Int), 0 ≤ i → (bM B - i).toNat = m → m < F → i ≤ 8 → f_X10_manTold_L93 f_X10_manTold_j160 F v1 ki v5 (Int32.ofInt i) s7 = some s7 := by
        intro m
        induction m with
        | zero =>
          intro F i i0 hm hF i8
          obtain ⟨F, rfl⟩ : ∃ F', F = F' + 1 := ⟨F - 1, by omega⟩
          simp (disch := omega) only [f_X10_manTold_L93, f_X10_manTold_j160, e1, h1, e5, n_i8, n_i16, n_0, n_31, n_add, n_sub, n_mul, n_neg, n_div, n_rem, n_le_t, n_le_f, n_lt_t, n_lt_f, n_eq_t, n_eq_f, n_cl, n_gd, n_gdt, n_nz, Int.reduceToNat, Int.reduceAdd, Int.reduceSub, Int.reduceMul, Int.reduceNeg, Int.reduceLT, Int.reduceLE, Int.reduceEq, Int.reduceDiv, Int.reduceMod, Nat.reduceAdd, Nat.reduceMul, ↓reduceIte]
        | succ m ih =>
          intro F i i0 hm hF i8
          obtain ⟨F, rfl⟩ : ∃ F', F = F' + 1 := ⟨F - 1, by omega⟩
          rw [← ih F (i + 1) (by omega) (by omega) (by omega) (by omega), f_X10_manTold_L93]
          simp (disch := omega) only [e1, h1, e5, n_i8, n_i16, n_0, n_31, n_add, n_sub, n_mul, n_neg, n_div, n_rem, n_le_t, n_le_f, n_lt_t, n_lt_f, n_eq_t, n_eq_f, n_cl, n_gd, n_gdt, n_nz, Int.reduceToNat, Int.reduceAdd, Int.reduceSub, Int.reduceMul, Int.reduceNeg, Int.reduceLT, Int.reduceLE, Int.reduceEq, Int.reduceDiv, Int.reduceMod, Nat.reduceAdd, Nat.reduceMul, ↓reduceIte]
      exact dead (bM B).toNat fuel 0 (by omega) (by omega) (by unfold fuel; omega) (by omega)
    cases e1 : nmS T n (dupD B N) c with
    | error x => exact bad x (by simp only [cu, eb_ok, show wno 78 = 10 from rfl, show wno 79 = 11 from rfl, show wno 80 = 12 from rfl, e1, eb_er] at r7; exact r7) (by unfold manS; rw [e1]; rfl)
    | ok a1 =>
    cases e2 : tkW T n 10 a1.2 with
    | error x => exact bad x (by simp only [cu, eb_ok, show wno 78 = 10 from rfl, show wno 79 = 11 from rfl, show wno 80 = 12 from rfl, e1, e2, eb_er] at r7; exact r7) (by unfold manS; rw [e1, eb_ok, e2]; rfl)
    | ok c2 =>
    cases e3 : knS T n B N c2 with
    | error x => exact bad x (by simp only [cu, eb_ok, show wno 78 = 10 from rfl, show wno 79 = 11 from rfl, show wno 80 = 12 from rfl, e1, e2, e3, eb_er] at r7; exact r7) (by unfold manS; rw [e1, eb_ok, e2, eb_ok, e3]; rfl)
    | ok a3 =>
    cases e4 : tkW T n 11 a3.2 with
    | error x => exact bad x (by simp only [cu, eb_ok, show wno 78 = 10 from rfl, show wno 79 = 11 from rfl, show wno 80 = 12 from rfl, e1, e2, e3, e4, eb_er] at r7; exact r7) (by unfold manS; rw [e1, eb_ok, e2, eb_ok, e3, eb_ok, e4]; rfl)
    | ok c4 =>
    cases e5 : numS T n c4 0 1 with
    | error x => exact bad x (by simp only [cu, eb_ok, show wno 78 = 10 from rfl, show wno 79 = 11 from rfl, show wno 80 = 12 from rfl, e1, e2, e3, e4, e5, eb_er] at r7; exact r7) (by unfold manS; rw [e1, eb_ok, e2, eb_ok, e3, eb_ok, e4, eb_ok, e5]; rfl)
    | ok a5 =>
    cases e6 : tkW T n 12 a5.2 with
    | error x => exact bad x (by simp only [cu, eb_ok, show wno 78 = 10 from rfl, show wno 79 = 11 from rfl, show wno 80 = 12 from rfl, e1, e2, e3, e4, e5, e6, eb_er] at r7; exact r7) (by unfold manS; rw [e1, eb_ok, e2, eb_ok, e3, eb_ok, e4, eb_ok, e5, eb_ok, e6]; rfl)
    | ok c6 =>
    cases e7 : plcS T n (bW B) (bH B) c6 with
    | error x => exact bad x (by simp only [cu, eb_ok, show wno 78 = 10 from rfl, show wno 79 = 11 from rfl, show wno 80 = 12 from rfl, e1, e2, e3, e4, e5, e6, e7, eb_er] at r7; exact r7) (by unfold manS; rw [e1, eb_ok, e2, eb_ok, e3, eb_ok, e4, eb_ok, e5, eb_ok, e6, eb_ok, e7]; rfl)
    | ok a7 =>
    simp only [cu, eb_ok, show wno 78 = 10 from rfl, show wno 79 = 11 from rfl, show wno 80 = 12 from rfl, e1, e2, e3, e4, e5, e6, e7] at r1 r3 r5 r7
    have u1 : v1 = Int64.ofInt (b27 a1.1) := r1.1
    have u2 : NV a1.1 := r1.2.1
    have u3 : ki = Int32.ofInt a3.1 := r3.1
    have u5 : v5 = Int32.ofInt a5.1 := r5.1
    have hv5 := (numS_v e5).2.2.1
    obtain ⟨⟨w1, w2, w3⟩, ⟨w4, w5⟩, w6⟩ := r7
    obtain ⟨hL1, hL2⟩ := m_held_L (x2 := v1) (x6 := ki) (x7 := v5) (by omega) (by omega) (by omega) (by omega) hV (bM B).toNat fuel 0 s7 hD7 w1 w2 w3 w4.b.1 (by omega) (by omega) (by unfold fuel; omega) (by omega)
    have hS : manS T n B G N c = if hld B G a7.1.1 a7.1.2.1 = true then .error (2, a7.1.2.2) else .ok ((a1.1, a3.1, a5.1, a7.1.1, a7.1.2.1), a7.2) := by unfold manS; rw [e1, eb_ok, e2, eb_ok, e3, eb_ok, e4, eb_ok, e5, eb_ok, e6, eb_ok, e7]; rfl
    cases eh : hld B G a7.1.1 a7.1.2.1 with
    | true =>
      obtain ⟨s8, t1, t2, t3⟩ := hL2 eh
      refine ⟨s8, t1, P.b.tr t3.b, fun x => absurd x e8, fun _ => ?_⟩
      rw [hS, if_pos eh]
      exact t2
    | false =>
      rw [hL1 eh]
      have h57 := w4.b.1
      have ha := m_adds (s := s7) (k := 1) (v := bM B) (x := v1) (by omega) (by omega) hD7.1.1.2.1 (by omega) (by omega)
      have hfr : ∀ o j : Nat, ¬ (o = 101 ∧ j = 1) → ¬ (o = 105 ∧ 2 * bM B ≤ (j : Int) ∧ (j : Int) < 16) → ¬ (o = 106 ∧ 2 * bM B ≤ (j : Int)) → (uI (uI (uI (uI (uI (uJ s7 102 (8 * 1 + bM B).toNat v1) 101 (1 : Int).toNat (Int32.ofInt (bM B + 1))) 105 (2 * bM B).toNat ki) 105 (2 * bM B + 1).toNat v5) 106 (2 * bM B).toNat (Int32.ofInt a7.1.1)) 106 (2 * bM B + 1).toNat (Int32.ofInt a7.1.2.1)).1 o j = s7.1 o j := fun o j x1 x2 x3 => by (simp only [ua, ja, u_2, u_3, j_1, j_3]; (repeat' split) <;> first | rfl | (exfalso; omega))
      refine ⟨uI (uI (uI (uI (uI (uJ s7 102 (8 * 1 + bM B).toNat v1) 101 (1 : Int).toNat (Int32.ofInt (bM B + 1))) 105 (2 * bM B).toNat ki) 105 (2 * bM B + 1).toNat v5) 106 (2 * bM B).toNat (Int32.ofInt a7.1.1)) 106 (2 * bM B + 1).toNat (Int32.ofInt a7.1.2.1), ?_, ?_, fun x => absurd x e8, fun _ => ?_⟩
      · simp (disch := omega) only [f_X10_manTold_j160, h57, ↓bb ha, w1, w2, j64_1, n_i8, n_i16, n_0, n_31, n_add, n_sub, n_mul, n_neg, n_div, n_rem, n_le_t, n_le_f, n_lt_t, n_lt_f, n_eq_t, n_eq_f, n_cl, n_gd, n_gdt, n_nz, Int.reduceToNat, Int.reduceAdd, Int.reduceSub, Int.reduceMul, Int.reduceNeg, Int.reduceLT, Int.reduceLE, Int.reduceEq, Int.reduceDiv, Int.reduceMod, Nat.reduceAdd, Nat.reduceMul, ↓reduceIte, u_eq, u_no, u_nk, u_ek, u_2, u_3, j_1, j_3, j_eq, j_no, j_nk, ltd, bnd]
      · refine P.b.tr ⟨fun o k x => hfr o k (by unfold LO at x; omega) (by unfold LO at x; omega) (by unfold LO at x; omega), fun o k x => ?_, rfl⟩
        show (uJ s7 102 (8 * 1 + bM B).toNat v1).2.1 o k = s7.2.1 o k
        by_cases y1 : o = 102
        · exact j_nk (by omega)
        · exact j_no y1
      · rw [hS, if_neg (by rw [eh]; decide)]
        refine RQ.ok ⟨?_, ⟨u2, r3.2.2, ⟨hv5.1, hv5.2⟩, w6, eh⟩, RC_fr w4 ?_ ?_ ?_ ?_ ?_ ?_, ?_⟩
        · refine RD_M hV hD7 (by omega) u2 (fun a k x1 x2 x3 x4 => hfr a k x2 x3 x4) ?_ ?_ ?_ ?_ ?_ ?_ ?_
          · rw [u_no (by omega), u_no (by omega), u_no (by omega), u_no (by omega)]
            exact u_ek rfl
          · rw [u_no (by omega), u_no (by omega), u_nk (by omega), u_eq, u3]
          · rw [u_no (by omega), u_no (by omega), u_eq, u5]
          · rw [u_nk (by omega), u_eq]
          · rw [u_eq]
          · show (uJ s7 102 (8 * 1 + bM B).toNat v1).2.1 102 (8 * 1 + bM B).toNat = _
            rw [j_eq, u1]
          · intro j hj
            show (uJ s7 102 (8 * 1 + bM B).toNat v1).2.1 102 j = _
            exact j_nk hj
        · exact hfr 65 2 (by omega) (by omega) (by omega)
        · exact hfr 65 3 (by omega) (by omega) (by omega)
        · exact hfr 65 4 (by omega) (by omega) (by omega)
        · exact hfr 65 5 (by omega) (by omega) (by omega)
        · exact hfr 65 6 (by omega) (by omega) (by omega)
        · exact fun k => hfr 66 k (by omega) (by omega) (by omega)
        · exact WDS_fr w5 (fun o k ho => hfr o k (by omega) (by omega) (by omega))
theorem RG_cup {α : Type} {r : EX (α × Cur)} {s : ST} {Q R : α × Cur → Prop} (h : RQ r (fun a => Q a ∧ (RC T n a.2 s ∧ WDS s) ∧ R a) (fun k p => RB k p s)) : RG T n (cu r) s := by
  cases r with
  | error e => exact h
  | ok a => exact h.2.1
theorem m_fldT {c : Cur} {s : ST} {bg : Int} (hV : DV B G N) (hD : RD B G N s) (hc : RC T n c s) (hw : WDS s) : ∃ s', f_X10_fieldTold (Int32.ofInt bg) s = some s' ∧ BFr s s' ∧ (bF B = 6 → RB 5 bg s') ∧ (¬ bF B = 6 → RQ (fldS T n B N c) (fun a => RD (addF B a.1.2.1 a.1.2.2.1) (gFd G (bF B) a.1.2.2.2) (adN N 2 (bF B) a.1.1) s' ∧ (NV a.1.1 ∧ (0 ≤ a.1.2.1 ∧ a.1.2.1 < bW B ∧ 0 ≤ a.1.2.2.1 ∧ a.1.2.2.1 < bH B) ∧ (1 ≤ a.1.2.2.2 ∧ a.1.2.2.2 ≤ 999)) ∧ RC T n a.2 s' ∧ WDS s') (fun k p => RB k p s')) := by
  have h5 := hc.b.1
  have hVb := hV.1.2.1
  have hWb := hV.1.1
  obtain ⟨fu1, fu2⟩ := m_full (room := 6) (bg := bg) (k := 2) h5 (by omega) (by omega) hD.1.1.2.2 (by omega) (by omega) (by omega) (by omega)
  by_cases e8 : bF B = 6
  · obtain ⟨s', q1, q2, q3⟩ := fu2 e8
    refine ⟨s', ?_, q3.b, fun _ => q2, fun x => absurd e8 x⟩
    simp (disch := omega) only [f_X10_fieldTold, ↓bb q1, n_i8, n_i16, n_0, n_31, n_add, n_sub, n_mul, n_neg, n_div, n_rem, n_le_t, n_le_f, n_lt_t, n_lt_f, n_eq_t, n_eq_f, n_cl, n_gd, n_gdt, n_nz, Int.reduceToNat, Int.reduceAdd, Int.reduceSub, Int.reduceMul, Int.reduceNeg, Int.reduceLT, Int.reduceLE, Int.reduceEq, Int.reduceDiv, Int.reduceMod, Nat.reduceAdd, Nat.reduceMul, ↓reduceIte]
  · have fu1 := fu1 e8
    obtain ⟨v1, s1, q1, p1, r1⟩ := m_newName hV hD hc hw
    obtain ⟨s2, q2, p2, r2⟩ := g_asks (RG_cun r1) (o := 80) (by unfold wce; omega)
    have hD2 := RD_p hD (p1.tr p2)
    obtain ⟨s3, q3, p3, r3⟩ := g_place r2 hD2.1.2.1.1 hD2.1.2.1.2.1 (by omega) hWb.2.1 (by omega) hWb.2.2.2
    obtain ⟨s4, q4, p4, r4⟩ := g_asks (RG_cup r3) (o := 82) (by unfold wce; omega)
    obtain ⟨v5, s5, q5, p5, r5⟩ := g_num r4 (lo := 1) (hi := 999) (by omega) (by omega) (by omega) (by omega)
    have P : RPg s s5 := ((p1.tr p2).g.tr p3).tr (p4.tr p5).g
    have hD5 := RD_g hD P
    have ef : f_X10_fieldTold (Int32.ofInt bg) s = (if (s5.1 65 5) = 0 then (f_X10_adds (Int32.ofInt 2) v1 s5).bind (fun q9 => gd (ib ((Int32.ofInt 3) * q9.1) 36) (gd (ib (((Int32.ofInt 3) * q9.1) + (Int32.ofInt 1)) 36) (gd (ib (((Int32.ofInt 3) * q9.1) + (Int32.ofInt 2)) 36) (lt (uI (uI (uI q9.2 107 ((Int32.ofInt 3) * q9.1).toNatClampNeg (q9.2.1 65 60)) 107 (((Int32.ofInt 3) * q9.1) + (Int32.ofInt 1)).toNatClampNeg ((uI q9.2 107 ((Int32.ofInt 3) * q9.1).toNatClampNeg (q9.2.1 65 60)).1 65 61)) 107 (((Int32.ofInt 3) * q9.1) + (Int32.ofInt 2)).toNatClampNeg v5) (fun s13 => some s13))))) else some s5) := by
      rw [f_X10_fieldTold]
      rw [show (Int8.ofInt 6).toInt32 = Int32.ofInt 6 from rfl, show (Int16.ofInt 999).toInt32 = Int32.ofInt 999 from rfl]
      rw [fu1, bnd]
      show (if (Int32.ofInt 0) = 0 then _ else _) = _
      rw [if_pos (show Int32.ofInt 0 = 0 from rfl), q1, bnd]
      show (f_X10_asks 80 s1).bind _ = _
      rw [q2, bnd, q3, bnd, q4, bnd, q5, bnd]
    rw [ef]
    have bad : ∀ e : Int × Int, RB e.1 e.2 s5 → fldS T n B N c = .error e → ∃ s', (if (s5.1 65 5) = 0 then (f_X10_adds (Int32.ofInt 2) v1 s5).bind (fun q9 => gd (ib ((Int32.ofInt 3) * q9.1) 36) (gd (ib (((Int32.ofInt 3) * q9.1) + (Int32.ofInt 1)) 36) (gd (ib (((Int32.ofInt 3) * q9.1) + (Int32.ofInt 2)) 36) (lt (uI (uI (uI q9.2 107 ((Int32.ofInt 3) * q9.1).toNatClampNeg (q9.2.1 65 60)) 107 (((Int32.ofInt 3) * q9.1) + (Int32.ofInt 1)).toNatClampNeg ((uI q9.2 107 ((Int32.ofInt 3) * q9.1).toNatClampNeg (q9.2.1 65 60)).1 65 61)) 107 (((Int32.ofInt 3) * q9.1) + (Int32.ofInt 2)).toNatClampNeg v5) (fun s13 => some s13))))) else some s5) = some s' ∧ BFr s s' ∧ (bF B = 6 → RB 5 bg s') ∧ (¬ bF B = 6 → RQ (fldS T n B N c) (fun a => RD (addF B a.1.2.1 a.1.2.2.1) (gFd G (bF B) a.1.2.2.2) (adN N 2 (bF B) a.1.1) s' ∧ (NV a.1.1 ∧ (0 ≤ a.1.2.1 ∧ a.1.2.1 < bW B ∧ 0 ≤ a.1.2.2.1 ∧ a.1.2.2.1 < bH B) ∧ (1 ≤ a.1.2.2.2 ∧ a.1.2.2.2 ≤ 999)) ∧ RC T n a.2 s' ∧ WDS s') (fun k p => RB k p s')) := by
      intro e hB he
      refine ⟨s5, if_neg hB.ne, P.b, fun x => absurd x e8, fun _ => by rw [he]; exact hB⟩
    cases e1 : nmS T n (dupD B N) c with
    | error x => exact bad x (by simp only [cu, eb_ok, show wno 80 = 12 from rfl, show wno 82 = 14 from rfl, e1, eb_er] at r5; exact r5) (by unfold fldS; rw [e1]; rfl)
    | ok a1 =>
    cases e2 : tkW T n 12 a1.2 with
    | error x => exact bad x (by simp only [cu, eb_ok, show wno 80 = 12 from rfl, show wno 82 = 14 from rfl, e1, e2, eb_er] at r5; exact r5) (by unfold fldS; rw [e1, eb_ok, e2]; rfl)
    | ok c2 =>
    cases e3 : plcS T n (bW B) (bH B) c2 with
    | error x => exact bad x (by simp only [cu, eb_ok, show wno 80 = 12 from rfl, show wno 82 = 14 from rfl, e1, e2, e3, eb_er] at r5; exact r5) (by unfold fldS; rw [e1, eb_ok, e2, eb_ok, e3]; rfl)
    | ok a3 =>
    cases e4 : tkW T n 14 a3.2 with
    | error x => exact bad x (by simp only [cu, eb_ok, show wno 80 = 12 from rfl, show wno 82 = 14 from rfl, e1, e2, e3, e4, eb_er] at r5; exact r5) (by unfold fldS; rw [e1, eb_ok, e2, eb_ok, e3, eb_ok, e4]; rfl)
    | ok c4 =>
    cases e5 : numS T n c4 1 999 with
    | error x => exact bad x (by simp only [cu, eb_ok, show wno 80 = 12 from rfl, show wno 82 = 14 from rfl, e1, e2, e3, e4, e5, eb_er] at r5; exact r5) (by unfold fldS; rw [e1, eb_ok, e2, eb_ok, e3, eb_ok, e4, eb_ok, e5]; rfl)
    | ok a5 =>
    simp only [cu, eb_ok, show wno 80 = 12 from rfl, show wno 82 = 14 from rfl, e1, e2, e3, e4, e5] at r1 r3 r5
    have u1 : v1 = Int64.ofInt (b27 a1.1) := r1.1
    have u2 : NV a1.1 := r1.2.1
    have u5 : v5 = Int32.ofInt a5.1 := r5.1
    have hv5 := (numS_v e5).2.2.1
    obtain ⟨w4, w5⟩ := r5.2.1
    obtain ⟨⟨w1, w2, -⟩, -, w6⟩ := r3
    have w1 : s5.1 65 60 = Int32.ofInt a3.1.1 := ((p4.tr p5).1 65 60 (by omega)).trans w1
    have w2 : s5.1 65 61 = Int32.ofInt a3.1.2.1 := ((p4.tr p5).1 65 61 (by omega)).trans w2
    have hS : fldS T n B N c = .ok ((a1.1, a3.1.1, a3.1.2.1, a5.1), a5.2) := by unfold fldS; rw [e1, eb_ok, e2, eb_ok, e3, eb_ok, e4, eb_ok, e5]; rfl
    have h57 := w4.b.1
    have ha := m_adds (s := s5) (k := 2) (v := bF B) (x := v1) (by omega) (by omega) hD5.1.1.2.2 (by omega) (by omega)
    have hfr : ∀ o j : Nat, ¬ (o = 101 ∧ j = 2) → ¬ (o = 107 ∧ 3 * bF B ≤ (j : Int) ∧ (j : Int) < 18) → (uI (uI (uI (uI (uJ s5 102 (8 * 2 + bF B).toNat v1) 101 (2 : Int).toNat (Int32.ofInt (bF B + 1))) 107 (3 * bF B).toNat (Int32.ofInt a3.1.1)) 107 (3 * bF B + 1).toNat (Int32.ofInt a3.1.2.1)) 107 (3 * bF B + 2).toNat v5).1 o j = s5.1 o j := fun o j x1 x2 => by (simp only [ua, ja, u_2, u_3, j_1, j_3]; (repeat' split) <;> first | rfl | (exfalso; omega))
    refine ⟨uI (uI (uI (uI (uJ s5 102 (8 * 2 + bF B).toNat v1) 101 (2 : Int).toNat (Int32.ofInt (bF B + 1))) 107 (3 * bF B).toNat (Int32.ofInt a3.1.1)) 107 (3 * bF B + 1).toNat (Int32.ofInt a3.1.2.1)) 107 (3 * bF B + 2).toNat v5, ?_, ?_, fun x => absurd x e8, fun _ => ?_⟩
    · simp (disch := omega) only [h57, ↓bb ha, w1, w2, j64_1, n_i8, n_i16, n_0, n_31, n_add, n_sub, n_mul, n_neg, n_div, n_rem, n_le_t, n_le_f, n_lt_t, n_lt_f, n_eq_t, n_eq_f, n_cl, n_gd, n_gdt, n_nz, Int.reduceToNat, Int.reduceAdd, Int.reduceSub, Int.reduceMul, Int.reduceNeg, Int.reduceLT, Int.reduceLE, Int.reduceEq, Int.reduceDiv, Int.reduceMod, Nat.reduceAdd, Nat.reduceMul, ↓reduceIte, u_eq, u_no, u_nk, u_ek, u_2, u_3, j_1, j_3, j_eq, j_no, j_nk, ltd, bnd]
    · refine P.b.tr ⟨fun o k x => hfr o k (by unfold LO at x; omega) (by unfold LO at x; omega), fun o k x => ?_, rfl⟩
      show (uJ s5 102 (8 * 2 + bF B).toNat v1).2.1 o k = s5.2.1 o k
      by_cases y1 : o = 102
      · exact j_nk (by omega)
      · exact j_no y1
    · rw [hS]
      refine RQ.ok ⟨?_, ⟨u2, w6, hv5.1, hv5.2⟩, RC_fr w4 ?_ ?_ ?_ ?_ ?_ ?_, ?_⟩
      · refine RD_F hV hD5 (by omega) u2 (fun a k x1 x2 x3 => hfr a k x2 x3) ?_ ?_ ?_ ?_ ?_ ?_
        · rw [u_no (by omega), u_no (by omega), u_no (by omega)]
          exact u_ek rfl
        · rw [u_nk (by omega), u_nk (by omega), u_eq]
        · rw [u_nk (by omega), u_eq]
        · rw [u_eq, u5]
        · show (uJ s5 102 (8 * 2 + bF B).toNat v1).2.1 102 (8 * 2 + bF B).toNat = _
          rw [j_eq, u1]
        · intro j hj
          show (uJ s5 102 (8 * 2 + bF B).toNat v1).2.1 102 j = _
          exact j_nk hj
      · exact hfr 65 2 (by omega) (by omega)
      · exact hfr 65 3 (by omega) (by omega)
      · exact hfr 65 4 (by omega) (by omega)
      · exact hfr 65 5 (by omega) (by omega)
      · exact hfr 65 6 (by omega) (by omega)
      · exact fun k => hfr 66 k (by omega) (by omega)
      · exact WDS_fr w5 (fun o k ho => hfr o k (by omega) (by omega))
