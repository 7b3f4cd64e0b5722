/-! L3: board: both answer alike -/
theorem RS_up {B : Brd} {G : Gam} {brd : Bool} {s s' : ST} (h : RS B G brd s) (hf : ∀ o k : Nat, (o = 101 ∧ 3 ≤ k) ∨ (o = 103 ∧ 4 ≤ k) ∨ (o = 104 ∧ 20 ≤ k) ∨ (o = 105 ∧ 16 ≤ k) ∨ (o = 107 ∧ 18 ≤ k) ∨ (o = 108 ∧ 2 ≤ k) ∨ (o = 109 ∧ k = 1) ∨ (o = 110 ∧ k = 1) ∨ (o = 111 ∧ 1600 ≤ k) ∨ o = 112 ∨ (o = 65 ∧ (k = 58 ∨ k = 75 ∨ k = 78)) → s'.1 o k = s.1 o k) : RS B G brd s' := by
  obtain ⟨⟨⟨h1, h2, ⟨⟨m1, m2, m3, m4, m5, m6, m7, m8, m9⟩, mk, mm, mf⟩, ⟨g1, g2⟩, g3, g4⟩, h3, h3b⟩, h4, h5, h6, h7⟩ := h
  have hKb := h1.1.1
  refine ⟨⟨⟨h1, h2, ⟨⟨(hf _ _ (by omega)).trans m1, (hf _ _ (by omega)).trans m2, (hf _ _ (by omega)).trans m3, (hf _ _ (by omega)).trans m4, (hf _ _ (by omega)).trans m5, (hf _ _ (by omega)).trans m6, (hf _ _ (by omega)).trans m7, (hf _ _ (by omega)).trans m8, (hf _ _ (by omega)).trans m9⟩, fun k k0 k1 => ?_, fun k k0 k1 => ?_, fun k k0 k1 => ?_⟩, ⟨(hf _ _ (by omega)).trans g1, (hf _ _ (by omega)).trans g2⟩, fun k k0 k1 => ?_, fun k k0 k1 => (hf _ _ (by omega)).trans (g4 k k0 k1)⟩, ?_, h3b⟩, (hf _ _ (by omega)).trans h4, (hf _ _ (by omega)).trans h5, (hf _ _ (by omega)).trans h6, h7⟩
  · obtain ⟨a, b, c, d⟩ := mk k k0 k1
    exact ⟨(hf _ _ (by omega)).trans a, (hf _ _ (by omega)).trans b, (hf _ _ (by omega)).trans c, (hf _ _ (by omega)).trans d⟩
  · obtain ⟨a, b⟩ := mm k k0 k1
    exact ⟨(hf _ _ (by omega)).trans a, (hf _ _ (by omega)).trans b⟩
  · obtain ⟨a, b⟩ := mf k k0 k1
    exact ⟨(hf _ _ (by omega)).trans a, (hf _ _ (by omega)).trans b⟩
  · obtain ⟨a, b⟩ := g3 k k0 k1
    exact ⟨(hf _ _ (by omega)).trans a, (hf _ _ (by omega)).trans b⟩
  · rcases h3 with ⟨a, b⟩ | ⟨a, b, c, d, e⟩
    · exact Or.inl ⟨a, (hf _ _ (by omega)).trans b⟩
    · exact Or.inr ⟨a, b, (hf _ _ (by omega)).trans c, (hf _ _ (by omega)).trans d, fun i i0 i1 => (hf _ _ (by omega)).trans (e i i0 i1)⟩
theorem CQ_h {B : Brd} {G : Gam} {brd : Bool} {p : Nat} {s s' : ST} (h : CQ B G brd p s) (hf : ∀ a k : Nat, (p ≤ a ∧ a ≤ p + 13) ∨ (36 ≤ a ∧ a ≤ 45) → s'.1 a k = s.1 a k) (h2 : ∀ j : Nat, ¬ j = 4 → s'.2.2 j = s.2.2 j) : CQ B G brd p s' := by
  obtain ⟨⟨⟨⟨g4, g5, g6, ⟨⟨n1, n2, n3, n4, n5, n6, n7⟩, b1, b2, b3, b4⟩, ⟨y1, y2, ⟨y3, y4⟩, y5, y6⟩⟩, gS, gB⟩, h3, h4, h5⟩, ⟨h6, h7⟩, h8⟩ := h
  have hR : ∀ o k : Nat, ¬ slot o k = 4 → RR s'.2.2 o k = RR s.2.2 o k := fun o k x => by
    unfold RR
    rw [h2 _ x]
  refine ⟨⟨⟨⟨g4, g5, (hR 36 0 (by decide)).trans g6, ⟨⟨(hf _ _ (by omega)).trans n1, (hf _ _ (by omega)).trans n2, (hf _ _ (by omega)).trans n3, (hf _ _ (by omega)).trans n4, (hf _ _ (by omega)).trans n5, (hf _ _ (by omega)).trans n6, (hf _ _ (by omega)).trans n7⟩, fun k k0 k1 => ?_, fun k k0 k1 => ?_, fun k k0 k1 => (hf _ _ (by omega)).trans (b3 k k0 k1), ?_⟩, ⟨fun m m0 m1 => (hf _ _ (by omega)).trans (y1 m m0 m1), fun m m0 m1 => (hf _ _ (by omega)).trans (y2 m m0 m1), ⟨(hf _ _ (by omega)).trans y3, (hf _ _ (by omega)).trans y4⟩, (hf _ _ (by omega)).trans y5, (hf _ _ (by omega)).trans y6⟩⟩, (hf _ _ (by omega)).trans gS, fun f f0 f1 => (hf _ _ (by omega)).trans (gB f f0 f1)⟩, (hf _ _ (by omega)).trans h3, ⟨(hf _ _ (by omega)).trans h4.1, (hf _ _ (by omega)).trans h4.2⟩, h5⟩, ⟨(hR 0 3 (by decide)).trans h6, (hR 46 0 (by decide)).trans h7⟩, h8⟩
  · obtain ⟨a, b, c, d⟩ := b1 k k0 k1
    exact ⟨(hf _ _ (by omega)).trans a, (hf _ _ (by omega)).trans b, (hf _ _ (by omega)).trans c, (hf _ _ (by omega)).trans d⟩
  · obtain ⟨a, b⟩ := b2 k k0 k1
    exact ⟨(hf _ _ (by omega)).trans a, (hf _ _ (by omega)).trans b⟩
  · rcases b4 with ⟨a, b⟩ | ⟨a, b, c, d, e⟩
    · exact Or.inl ⟨a, (hf _ _ (by omega)).trans b⟩
    · exact Or.inr ⟨a, b, (hf _ _ (by omega)).trans c, (hf _ _ (by omega)).trans d, fun i i0 i1 => (hf _ _ (by omega)).trans (e i i0 i1)⟩
theorem k_board (i : Nat) : ok_board Inv i := by
  rintro s ⟨B, G, brd, K, U, rn, rf, rv, x, T, n, L, N, p, hR, hC, hb, hp⟩
  obtain ⟨a, b, ⟨nw, c⟩, d, e, f, g, hNR, hWD⟩ := hR
  obtain ⟨cQ, cK, cU, cW, c12, cT, cWC, cN, c4⟩ := hC
  have hpp : p = 6 ∨ p = 20 := cQ.1.1.1.2.1.2
  have hBv := cQ.1.1.1.1.1
  obtain ⟨v, s1, q1, q2, q3, q4⟩ := c_boardC hpp cT cQ.2.1.1 c4
  have hi65 : ∀ o k : Nat, 65 ≤ o → s1.1 o k = s.1 o k := by
    intro o k ho
    cases eB : brdS T n with
    | error z => rw [eB] at q4; exact q4.2.2.1 o k (by omega) (by omega) (by omega) (by omega) (by omega) (by omega)
    | ok z => rw [eB] at q4; exact q4.2.2.2.2.1 o k (by omega)
  have f1 : TP T n s1 := TP_fr f (hi65 65 1 (by omega)) (fun k => hi65 66 k (by omega))
  obtain ⟨v', s2, r1, r2, r3⟩ := m_board f1 (WDS_fr hWD (fun o k ho => hi65 o k (by omega)))
  cases eB : brdS T n with
  | error z =>
    rw [eB] at q4 r3
    obtain ⟨w1, ⟨w2, w3, w4⟩, w5, w6⟩ := q4
    obtain ⟨⟨u1, u2, u3, u4, u5, u6⟩, u7, u8, u9⟩ := r3
    subst w1
    subst u1
    refine ⟨_, s1, s2, q1, r1, ?_⟩
    have hlow : ∀ o k : Nat, o < 65 → s2.1 o k = s1.1 o k := fun o k ho => u7 o k (by unfold LO; omega) (by omega) (by omega)
    have hs2 : ∀ o k : Nat, ¬ LO o k → ¬ (o = 65 ∧ (k ≤ 10 ∨ k = 57)) → ¬ (o = 67 ∧ k = 1) → 65 ≤ o → s2.1 o k = s.1 o k := fun o k x1 x2 x3 x4 => (u7 o k x1 x2 x3).trans (hi65 o k x4)
    have hcl : ∀ o k : Nat, ¬ o = 1 → ¬ o = 3 → ¬ (26 - p ≤ o ∧ o ≤ 39 - p) → ¬ (o = 5 ∧ k = 2) → ¬ (o = 0 ∧ (k = 13 ∨ k = 14)) → ¬ (o = 61 ∧ k = 1) → o < 65 → s2.1 o k = s.1 o k := fun o k x1 x2 x3 x4 x5 x6 x7 => (hlow o k x7).trans (w5 o k x1 x2 x3 x4 x5 x6)
    have hlg : ∀ o k : Nat, ¬ (o = 102 ∧ k < 24) → s2.2.1 o k = s.2.1 o k := fun o k y => (u8 o k y).trans (by rw [q3])
    refine ⟨B, G, brd, K, U, rn, rf, rv, x, T, 0, L, N, p, ⟨RS_up a (fun o k y => hs2 o k (by unfold LO; omega) (by omega) (by omega) (by omega)), RK_fr b (fun k _ => hs2 112 k (by unfold LO; omega) (by omega) (by omega) (by omega)), ⟨nw, RU_fr c (hs2 65 84 (by unfold LO; omega) (by omega) (by omega) (by omega)) (hs2 65 85 (by unfold LO; omega) (by omega) (by omega) (by omega)) (fun k => hs2 122 k (by unfold LO; omega) (by omega) (by omega) (by omega))⟩, RW_fr2 d (hs2 65 80 (by unfold LO; omega) (by omega) (by omega) (by omega)) (fun k => hs2 120 k (by unfold LO; omega) (by omega) (by omega) (by omega)), SE_2 e (hlg 65 86 (by omega)), ⟨r2, by omega, fun j j0 j1 => by omega⟩, WR_fr2 g (hs2 65 121 (by unfold LO; omega) (by omega) (by omega) (by omega)) (fun k => hs2 149 k (by unfold LO; omega) (by omega) (by omega) (by omega)), fun k w k0 k1 w0 w1 => ⟨(hlg _ _ (by omega)).trans (hNR k w k0 k1 w0 w1).1, (hNR k w k0 k1 w0 w1).2⟩, WDS_fr hWD (fun o k ho => hs2 o k (by unfold LO; omega) (by omega) (by omega) (by omega))⟩, ⟨CQ_h cQ (fun o k y => hcl o k (by omega) (by omega) (by omega) (by omega) (by omega) (by omega) (by omega)) (fun j hj => by rw [u9]; exact w6 j hj), CK_fr cK (hcl 56 1 (by omega) (by omega) (by omega) (by omega) (by omega) (by omega) (by omega)) (fun k => hcl 57 k (by omega) (by omega) (by omega) (by omega) (by omega) (by omega) (by omega)), ⟨(hcl 56 3 (by omega) (by omega) (by omega) (by omega) (by omega) (by omega) (by omega)).trans cU.1, cU.2.1, CUl_fr hBv cU.2.2 (fun k _ => hcl 58 k (by omega) (by omega) (by omega) (by omega) (by omega) (by omega) (by omega))⟩, CW_fr cW (hcl 0 11 (by omega) (by omega) (by omega) (by omega) (by omega) (by omega) (by omega)) (fun k => ⟨hcl 59 k (by omega) (by omega) (by omega) (by omega) (by omega) (by omega) (by omega), hcl 60 k (by omega) (by omega) (by omega) (by omega) (by omega) (by omega) (by omega)⟩), (hcl 0 12 (by omega) (by omega) (by omega) (by omega) (by omega) (by omega) (by omega)).trans c12, ⟨(hlow 1 1 (by omega)).trans q2, by omega, fun j j0 j1 => by omega⟩, WC_fr cWC (hcl 0 17 (by omega) (by omega) (by omega) (by omega) (by omega) (by omega) (by omega)) (fun k => hcl 62 k (by omega) (by omega) (by omega) (by omega) (by omega) (by omega) (by omega)), NC_fr cN (fun k => hcl (p + 11) k (by omega) (by omega) (by omega) (by omega) (by omega) (by omega) (by omega)), ?_⟩, ⟨?_, ?_, fun j hj => ?_⟩, hp⟩
    · rw [← c4]
      show s2.2.2 1 = s.2.2 1
      rw [u9]
      exact w6 1 (by omega)
    · rw [hlow 0 13 (by omega), w2, u2]
    · rw [hlow 0 14 (by omega), w3, u3]
    · rw [hlow 61 j (by omega)]
      by_cases y : j = 1
      · subst y
        rw [w4, u6, hi65 67 1 (by omega), hb.2.2 1 (by omega)]
      · rw [w5 61 j (by omega) (by omega) (by omega) (by omega) (by omega) (by omega), u7 67 j (by unfold LO; omega) (by omega) (by omega), hi65 67 j (by omega)]
        exact hb.2.2 j hj
  | ok z =>
    rw [eB] at q4 r3
    obtain ⟨w1, ⟨w2, w3, w4, w5⟩, ⟨w6, w7, w8⟩, ⟨w9, w10, w11, w12, w13⟩, w14, w15⟩ := q4
    obtain ⟨⟨u1, u1b⟩, hV, ⟨m1, m2, m3, m4⟩, ⟨u2, u3, u4, u5⟩, ⟨u6, u7⟩, u8, u9, u10⟩ := r3
    subst w1
    subst u1
    obtain ⟨hBv', hGv', hHv', hBd'⟩ := DV_A hV
    refine ⟨_, s1, s2, q1, r1, ?_⟩
    have hlow : ∀ o k : Nat, o < 65 → s2.1 o k = s1.1 o k := fun o k ho => u8 o k (by omega) (by omega) (by omega) (by omega)
    have hs2 : ∀ o k : Nat, ¬ (101 ≤ o ∧ o ≤ 112) → ¬ (o = 65 ∧ (k ≤ 10 ∨ k = 44 ∨ (56 ≤ k ∧ k ≤ 61) ∨ k = 80 ∨ k = 84 ∨ (111 ≤ k ∧ k ≤ 115))) → ¬ o = 146 → ¬ o = 147 → 65 ≤ o → s2.1 o k = s.1 o k := fun o k x1 x2 x3 x4 x5 => (u8 o k x1 x2 x3 x4).trans (hi65 o k x5)
    have hcl : ∀ o k : Nat, 57 ≤ o → o < 65 → s2.1 o k = s.1 o k := fun o k x1 x2 => (hlow o k x2).trans (w14 o k (by omega))
    have hc0 : ∀ k : Nat, ¬ k = 11 → ¬ k = 13 → ¬ k = 14 → s2.1 0 k = s.1 0 k := fun k x1 x2 x3 => (hlow 0 k (by omega)).trans (w15 k x1 x2 x3)
    have hlg : ∀ o k : Nat, ¬ o = 102 → s2.2.1 o k = s.2.1 o k := fun o k y => (u9 o k y).trans (by rw [q3])
    have hgd : gd_ z.2.2.1 = 0 := hV.2.2.1.2.2.2.1
    have hWb := hV.1.1
    have hq : 26 - p = 6 ∨ 26 - p = 20 := by omega
    have hCDf : CDf z.2.1 z.2.2.1 z.2.2.2 (26 - p) s2 := CDf_fr w2 (fun o k x1 x2 => hlow o k (by omega))
    refine ⟨z.2.1, z.2.2.1, true, [], [], 0, fun _ => 0, fun _ => 0, x, T, 0, L, z.2.2.2, 26 - p, ⟨⟨⟨⟨hBv', hGv', m1, m2⟩, m3, hHv'⟩, u2, (hs2 65 75 (by omega) (by omega) (by omega) (by omega) (by omega)).trans a.2.2.1, (hs2 65 78 (by omega) (by omega) (by omega) (by omega) (by omega)).trans a.2.2.2.1, fun _ => ⟨hBd', hWb.1, hWb.2.2.1⟩, fun y => (by cases y), by rw [hgd]; omega⟩, ⟨u5 24 (by omega) (by omega), fun j i j0 j1 => ?_⟩, ⟨nw, u3, (hs2 65 85 (by omega) (by omega) (by omega) (by omega) (by omega)).trans c.2.1, c.2.2.1, by decide, trivial⟩, ⟨u4, by omega, fun i i0 i1 => by omega⟩, SE_2 e (hlg 65 86 (by omega)), ⟨r2, by omega, fun j j0 j1 => by omega⟩, WR_fr2 g (hs2 65 121 (by omega) (by omega) (by omega) (by omega) (by omega)) (fun k => hs2 149 k (by omega) (by omega) (by omega) (by omega) (by omega)), m4, WDS_fr hWD (fun o k ho => hs2 o k (by omega) (by omega) (by omega) (by omega) (by omega))⟩, ⟨?_, ⟨(hlow 56 1 (by omega)).trans w9, by decide, fun j hj => by cases hj⟩, ⟨(hlow 56 3 (by omega)).trans w10, by decide, trivial⟩, ⟨(hlow 0 11 (by omega)).trans w11, by omega, fun i i0 i1 => by omega⟩, (hc0 12 (by omega) (by omega) (by omega)).trans c12, ⟨(hlow 1 1 (by omega)).trans q2, by omega, fun j j0 j1 => by omega⟩, WC_fr cWC (hc0 17 (by omega) (by omega) (by omega)) (fun k => hcl 62 k (by omega) (by omega)), fun k w k0 k1 y0 y1 => ?_, ?_⟩, ⟨?_, ?_, fun j hj => ?_⟩, ⟨?_, trivial, hp.2.2⟩⟩
    · have : kn ([] : List Ent) = 0 := rfl
      omega
    · -- the class's game
      obtain ⟨⟨g4, g5, g6, g7, ⟨y1, y2, ⟨y3, y4⟩, y5, y6⟩⟩, gS, gB⟩ := w3
      refine ⟨⟨⟨⟨g4, g5, ?_, hCDf.1, ⟨fun m m0 m1' => (hlow _ _ (by omega)).trans (y1 m m0 m1'), fun m m0 m1' => (hlow _ _ (by omega)).trans (y2 m m0 m1'), ⟨(hlow _ _ (by omega)).trans y3, (hlow _ _ (by omega)).trans y4⟩, (hlow _ _ (by omega)).trans y5, (hlow _ _ (by omega)).trans y6⟩⟩, (hlow _ _ (by omega)).trans gS, fun f f0 f1' => (hlow _ _ (by omega)).trans (gB f f0 f1')⟩, ?_, ⟨(hlow _ _ (by omega)).trans w5.1, (hlow _ _ (by omega)).trans w5.2⟩, hHv'⟩, ⟨?_, ?_⟩, fun _ => ⟨hBd', hWb.1, hWb.2.2.1⟩, fun y => (by cases y), by rw [hgd]; omega⟩
      · rw [u10]; exact g6
      · rw [hlow 36 1 (by omega), w4, hgd]
      · rw [u10]; exact w6
      · rw [u10]; exact w8
    · -- names
      have hn := hCDf.2.2.2.2
      have hVb := hV.1.2.1
      have hk : k = 0 ∨ k = 1 ∨ k = 2 := by omega
      have c0 : cnt z.2.1 0 = bK z.2.1 := rfl
      have c1 : cnt z.2.1 1 = bM z.2.1 := rfl
      have c2 : cnt z.2.1 2 = bF z.2.1 := rfl
      rcases hk with rfl | rfl | rfl
      · have := hn w y0 (by omega)
        show s2.1 (26 - p + 11) (0 + w).toNat = _
        rw [show (0 : Int) + w = w by omega, this]
        unfold nsl
        rw [if_pos (by omega), if_pos (by omega)]
      · have := hn (5 + w) (by omega) (by omega)
        show s2.1 (26 - p + 11) (5 + w).toNat = _
        rw [this]
        unfold nsl
        rw [if_neg (by omega), if_pos (by omega), if_pos (by omega), show 5 + w - 5 = w by omega]
      · have := hn (13 + w) (by omega) (by omega)
        show s2.1 (26 - p + 11) (13 + w).toNat = _
        rw [this]
        unfold nsl
        rw [if_neg (by omega), if_neg (by omega), if_pos (by omega), show 13 + w - 13 = w by omega]
    · rw [u10, show 26 - (26 - p) = p by omega]; exact w7
    · rw [hlow 0 13 (by omega), w12, u6]
    · rw [hlow 0 14 (by omega), w13, u7]
    · rw [hlow 61 j (by omega), w14 61 j (by omega), u8 67 j (by omega) (by omega) (by omega) (by omega), hi65 67 j (by omega)]
      exact hb.2.2 j hj
    · rw [hgd]
      show (0 : Int) ≤ 0
      omega
