/-! L3: what is told is a board -/
variable {T : Int → Int} {n : Int} {B : Brd} {G : Gam} {N : Int → Int → List Int}
theorem eb_v {α β : Type} {r : EX α} {k : α → EX β} {b : β} (h : eb r k = .ok b) : ∃ a, r = .ok a ∧ k a = .ok b := by
  cases r with
  | error e => cases h
  | ok a => exact ⟨a, rfl, h⟩
def setH (B : Brd) (l : List Int) : Brd := fun a b => if a = 11 then l.getD b.toNat 0 else if a = 0 ∧ b = 7 then (l.length : Int) else B a b
abbrev DRF : Type := Brd × Gam × (Int → Int → List Int)
section GR
variable (T : Int → Int) (n : Int)
def stmS (D : DRF) (c : Cur) : EX (DRF × Cur) :=
  if isWL T n c (WDl 4) = true then (if bK D.1 = 5 then .error (5, frm T n c) else eb (kndS T n (dupD D.1 D.2.2) (nxW T n c)) (fun a => .ok ((addK D.1 a.1.2.1 a.1.2.2.1 a.1.2.2.2.1 a.1.2.2.2.2, D.2.1, adN D.2.2 0 (bK D.1) a.1.1), a.2)))
  else if isWL T n c (WDl 9) = true then (if bM D.1 = 8 then .error (5, frm T n c) else eb (manS T n D.1 D.2.1 D.2.2 (nxW T n c)) (fun a => .ok ((addM D.1 a.1.2.1 a.1.2.2.1, gMn D.2.1 (bM D.1) a.1.2.2.2.1 a.1.2.2.2.2, adN D.2.2 1 (bM D.1) a.1.1), a.2)))
  else if isWL T n c (WDl 13) = true then (if bF D.1 = 6 then .error (5, frm T n c) else eb (fldS T n D.1 D.2.2 (nxW T n c)) (fun a => .ok ((addF D.1 a.1.2.1 a.1.2.2.1, gFd D.2.1 (bF D.1) a.1.2.2.2, adN D.2.2 2 (bF D.1) a.1.1), a.2)))
  else if isWL T n c (WDl 15) = true then (if bHm D.1 = -1 then eb (sumT T n false 6 (nxW T n c)) (fun a => .ok ((setH D.1 a.1, D.2.1, D.2.2), a.2)) else .error (5, frm T n c))
  else if isWL T n c (WDl 16) = true then eb (numS T n (nxW T n c) 0 99) (fun a => .ok ((sB D.1 0 5 a.1, D.2.1, D.2.2), a.2))
  else eb (tkW T n 17 c) (fun c1 => eb (numS T n c1 0 100) (fun a => .ok ((sB D.1 0 6 a.1, D.2.1, D.2.2), a.2)))
def stm1 (D : DRF) (c : Cur) : EX (DRF × Cur) := eb (stmS T n D c) (fun a => eb (tkS T n 59 a.2) (fun c' => .ok (a.1, c')))
def telL : Nat → Int → DRF → Cur → EX (Int × DRF)
  | 0, st, D, c => if frm T n c < n then .error (5, frm T n c) else .ok (st, D)
  | k + 1, st, D, c => if frm T n c < n then eb (stm1 T n D c) (fun a => telL k (st + 1) a.1 a.2) else .ok (st, D)
def bz (W H d e : Int) : Brd := fun a b => if a = 0 then (if b = 0 then W else if b = 1 then H else if b = 7 then -1 else 0) else if a = 1 then (if b = 0 then d else e) else 0
def sizS (c : Cur) : EX (Brd × Cur) :=
  eb (tkW T n 0 c) (fun c1 => eb (numS T n c1 2 5) (fun w => eb (tkW T n 1 w.2) (fun c3 => eb (numS T n c3 2 5) (fun g => eb (tkW T n 2 g.2) (fun c5 => eb (numS T n c5 1 2) (fun d => eb (tkW T n 3 d.2) (fun c7 => eb (numS T n c7 1 2) (fun e => .ok (bz w.1 g.1 d.1 e.1, e.2)))))))))
def brdS : EX (Int × DRF) := eb (sizS T n (0, false)) (fun a => eb (tkS T n 59 a.2) (fun c => telL T n 59 1 (a.1, (fun _ _ => 0), (fun _ _ => [])) c))
end GR
theorem nmS_v {dup : List Int → Bool} {c : Cur} {a : List Int × Cur} (h : nmS T n dup c = .ok a) (c0 : 0 ≤ c.1) (cn : c.1 ≤ n) : NV a.1 ∧ (c.1 ≤ a.2.1 ∧ a.2.1 ≤ n) := by
  unfold nmS at h
  obtain ⟨x, h1, h2⟩ := eb_v h
  by_cases e : dup x.1 = true
  · rw [if_pos e] at h2; cases h2
  · rw [if_neg e] at h2
    cases h2
    obtain ⟨g1, g2, g3⟩ := namS_v h1 c0 cn
    have := wd_b g3 c0 cn
    rw [g2]
    exact ⟨g1, by omega, by omega⟩
theorem tkW_v {k : Nat} {c c' : Cur} (h : tkW T n k c = .ok c') (c0 : 0 ≤ c.1) (cn : c.1 ≤ n) : c.1 ≤ c'.1 ∧ c'.1 ≤ n := by
  unfold tkW at h
  by_cases e : isWL T n c (WDl k) = true
  · rw [if_pos e] at h
    cases h
    have := wd_b (isWL_W e) c0 cn
    omega
  · rw [if_neg e] at h; cases h
theorem tkS_v {k : Int} {c c' : Cur} (h : tkS T n k c = .ok c') (c0 : 0 ≤ c.1) (cn : c.1 ≤ n) : c.1 < c'.1 ∧ c'.1 ≤ n := by
  unfold tkS at h
  by_cases e : isSg T n c k = true
  · rw [if_pos e] at h
    cases h
    exact sg_b e c0 cn
  · rw [if_neg e] at h; cases h
theorem numS_c {lo hi : Int} {c : Cur} {a : Int × Cur} (h : numS T n c lo hi = .ok a) (c0 : 0 ≤ c.1) (cn : c.1 ≤ n) : c.1 ≤ a.2.1 ∧ a.2.1 ≤ n := by
  obtain ⟨h1, h2, h3, h4⟩ := numS_v h
  have hE := nmE_b h1 cn
  have hf := frm_b (T := T) c0 cn
  rw [h4]
  show c.1 ≤ nmE T n c ∧ nmE T n c ≤ n
  omega
theorem kndS_v {dup : List Int → Bool} {c : Cur} {a : (List Int × Int × Int × Int × Int) × Cur} (h : kndS T n dup c = .ok a) (c0 : 0 ≤ c.1) (cn : c.1 ≤ n) : (NV a.1.1 ∧ (1 ≤ a.1.2.1 ∧ a.1.2.1 ≤ 4) ∧ (1 ≤ a.1.2.2.1 ∧ a.1.2.2.1 ≤ 4) ∧ (0 ≤ a.1.2.2.2.1 ∧ a.1.2.2.2.1 ≤ 99) ∧ (0 ≤ a.1.2.2.2.2 ∧ a.1.2.2.2.2 ≤ 1)) ∧ c.1 ≤ a.2.1 ∧ a.2.1 ≤ n := by
  unfold kndS at h
  obtain ⟨x1, h1, h⟩ := eb_v h
  obtain ⟨x2, h2, h⟩ := eb_v h
  obtain ⟨x3, h3, h⟩ := eb_v h
  obtain ⟨x4, h4, h⟩ := eb_v h
  obtain ⟨x5, h5, h⟩ := eb_v h
  obtain ⟨x6, h6, h⟩ := eb_v h
  obtain ⟨x7, h7, h⟩ := eb_v h
  obtain ⟨g1, g1b⟩ := nmS_v h1 c0 cn
  have g2 := tkW_v h2 (by omega) (by omega)
  have g3 := numS_c h3 (by omega) (by omega)
  have g4 := tkW_v h4 (by omega) (by omega)
  have g5 := numS_c h5 (by omega) (by omega)
  have g6 := tkW_v h6 (by omega) (by omega)
  have g7 := numS_c h7 (by omega) (by omega)
  have v3 := (numS_v h3).2.2.1
  have v5 := (numS_v h5).2.2.1
  have v7 := (numS_v h7).2.2.1
  by_cases e : isWL T n x7.2 (WDl 8) = true
  · rw [if_pos e] at h
    cases h
    have g8 := wd_b (isWL_W e) (by omega) (by omega)
    exact ⟨⟨g1, v3, v5, v7, (by show (0 : Int) ≤ 1; omega), (by show (1 : Int) ≤ 1; omega)⟩, by show c.1 ≤ (nxW T n x7.2).1; omega, g8.2⟩
  · rw [if_neg e] at h
    cases h
    exact ⟨⟨g1, v3, v5, v7, (by show (0 : Int) ≤ 0; omega), (by show (0 : Int) ≤ 1; omega)⟩, by show c.1 ≤ x7.2.1; omega, g7.2⟩
theorem plcS_v {W H : Int} {c : Cur} {a : (Int × Int × Int) × Cur} (h : plcS T n W H c = .ok a) (c0 : 0 ≤ c.1) (cn : c.1 ≤ n) : (0 ≤ a.1.1 ∧ a.1.1 < W ∧ 0 ≤ a.1.2.1 ∧ a.1.2.1 < H) ∧ c.1 ≤ a.2.1 ∧ a.2.1 ≤ n := by
  unfold plcS at h
  obtain ⟨x1, h1, h⟩ := eb_v h
  obtain ⟨x2, h2, h⟩ := eb_v h
  cases h
  have g1 := numS_c h1 c0 cn
  have g2 := numS_c h2 (by omega) (by omega)
  have v1 := (numS_v h1).2.2.1
  have v2 := (numS_v h2).2.2.1
  exact ⟨⟨v1.1, by show x1.1 < W; omega, v2.1, by show x2.1 < H; omega⟩, by show c.1 ≤ x2.2.1; omega, g2.2⟩
theorem knS_v {c : Cur} {a : Int × Cur} (h : knS T n B N c = .ok a) (hK : 0 ≤ bK B) (c0 : 0 ≤ c.1) (cn : c.1 ≤ n) : (0 ≤ a.1 ∧ a.1 < bK B) ∧ c.1 ≤ a.2.1 ∧ a.2.1 ≤ n := by
  unfold knS at h
  obtain ⟨x1, h1, h⟩ := eb_v h
  obtain ⟨g1, g2, g3⟩ := namS_v h1 c0 cn
  have g4 := wd_b g3 c0 cn
  have hfb := fdx_b (f := N 0) (nm := x1.1) (bK B).toNat 0 (by omega)
  by_cases e : fdx (N 0) x1.1 (bK B).toNat 0 = -1
  · rw [if_pos e] at h; cases h
  · rw [if_neg e] at h
    cases h
    show (0 ≤ fdx (N 0) x1.1 (bK B).toNat 0 ∧ fdx (N 0) x1.1 (bK B).toNat 0 < bK B) ∧ c.1 ≤ x1.2.1 ∧ x1.2.1 ≤ n
    rw [g2]
    omega
theorem manS_v {c : Cur} {a : (List Int × Int × Int × Int × Int) × Cur} (h : manS T n B G N c = .ok a) (hK : 0 ≤ bK B) (c0 : 0 ≤ c.1) (cn : c.1 ≤ n) : (NV a.1.1 ∧ (0 ≤ a.1.2.1 ∧ a.1.2.1 < bK B) ∧ (0 ≤ a.1.2.2.1 ∧ a.1.2.2.1 ≤ 1) ∧ (0 ≤ a.1.2.2.2.1 ∧ a.1.2.2.2.1 < bW B ∧ 0 ≤ a.1.2.2.2.2 ∧ a.1.2.2.2.2 < bH B) ∧ hld B G a.1.2.2.2.1 a.1.2.2.2.2 = false) ∧ c.1 ≤ a.2.1 ∧ a.2.1 ≤ n := by
  unfold manS at h
  obtain ⟨x1, h1, h⟩ := eb_v h
  obtain ⟨x2, h2, h⟩ := eb_v h
  obtain ⟨x3, h3, h⟩ := eb_v h
  obtain ⟨x4, h4, h⟩ := eb_v h
  obtain ⟨x5, h5, h⟩ := eb_v h
  obtain ⟨x6, h6, h⟩ := eb_v h
  obtain ⟨x7, h7, h⟩ := eb_v h
  obtain ⟨g1, g1b⟩ := nmS_v h1 c0 cn
  have g2 := tkW_v h2 (by omega) (by omega)
  have g3 := knS_v h3 hK (by omega) (by omega)
  have g4 := tkW_v h4 (by omega) (by omega)
  have g5 := numS_c h5 (by omega) (by omega)
  have g6 := tkW_v h6 (by omega) (by omega)
  have g7 := plcS_v h7 (by omega) (by omega)
  have v5 := (numS_v h5).2.2.1
  by_cases e : hld B G x7.1.1 x7.1.2.1 = true
  · rw [if_pos e] at h; cases h
  · rw [if_neg e] at h
    cases h
    exact ⟨⟨g1, g3.1, v5, g7.1, by show hld B G x7.1.1 x7.1.2.1 = false; cases z : hld B G x7.1.1 x7.1.2.1 with | false => rfl | true => exact absurd z e⟩, by show c.1 ≤ x7.2.1; omega, g7.2.2⟩
theorem fldS_v {c : Cur} {a : (List Int × Int × Int × Int) × Cur} (h : fldS T n B N c = .ok a) (c0 : 0 ≤ c.1) (cn : c.1 ≤ n) : (NV a.1.1 ∧ (0 ≤ a.1.2.1 ∧ a.1.2.1 < bW B ∧ 0 ≤ a.1.2.2.1 ∧ a.1.2.2.1 < bH B) ∧ (1 ≤ a.1.2.2.2 ∧ a.1.2.2.2 ≤ 999)) ∧ c.1 ≤ a.2.1 ∧ a.2.1 ≤ n := by
  unfold fldS at h
  obtain ⟨x1, h1, h⟩ := eb_v h
  obtain ⟨x2, h2, h⟩ := eb_v h
  obtain ⟨x3, h3, h⟩ := eb_v h
  obtain ⟨x4, h4, h⟩ := eb_v h
  obtain ⟨x5, h5, h⟩ := eb_v h
  obtain ⟨g1, g1b⟩ := nmS_v h1 c0 cn
  have g2 := tkW_v h2 (by omega) (by omega)
  have g3 := plcS_v h3 (by omega) (by omega)
  have g4 := tkW_v h4 (by omega) (by omega)
  have g5 := numS_c h5 (by omega) (by omega)
  have v5 := (numS_v h5).2.2.1
  cases h
  exact ⟨⟨g1, g3.1, v5⟩, by show c.1 ≤ x5.2.1; omega, g5.2⟩
/-! each keeps the board a board -/
theorem Hv_o {B' : Brd} (h : Hv B) (h1 : bHm B' = bHm B) (h2 : ∀ i, hcd B' i = hcd B i) : Hv B' := by
  have e : hcd B' = hcd B := funext h2
  unfold Hv hL at *
  rw [h1, e]
  exact h
theorem nv_a {N : Int → Int → List Int} {B B' : Brd} {k : Int} {nm : List Int} (h : ∀ j w : Int, 0 ≤ j → j ≤ 2 → 0 ≤ w → w < cnt B j → NV (N j w)) (hc : ∀ j : Int, 0 ≤ j → j ≤ 2 → cnt B' j = if j = k then cnt B j + 1 else cnt B j) (hn : NV nm) : ∀ j w : Int, 0 ≤ j → j ≤ 2 → 0 ≤ w → w < cnt B' j → NV (adN N k (cnt B k) nm j w) := by
  intro j w j0 j1 w0 w1
  rw [hc j j0 j1] at w1
  unfold adN
  by_cases e : j = k ∧ w = cnt B k
  · rw [if_pos e]; exact hn
  · rw [if_neg e]
    refine h j w j0 j1 w0 ?_
    split at w1
    · rename_i x
      have : ¬ w = cnt B j := fun y => e ⟨x, by rw [y, x]⟩
      omega
    · exact w1
theorem DV_K (hV : DV B G N) (hK : bK B < 5) {w r o c : Int} {nm : List Int} (hn : NV nm) (hw : 1 ≤ w ∧ w ≤ 4) (hr : 1 ≤ r ∧ r ≤ 4) (ho : 0 ≤ o ∧ o ≤ 99) (hc : 0 ≤ c ∧ c ≤ 1) : DV (addK B w r o c) G (adN N 0 (bK B) nm) := by
  obtain ⟨⟨a1, a2, a3, a4⟩, ⟨b1, b2, b3, b4⟩, ⟨c1, c2, c3, c4⟩, d⟩ := hV
  obtain ⟨n1, n2, n3, n4, n5⟩ := addK_n (B := B) (w := w) (r := r) (o := o) (c := c)
  have z : ∀ j : Int, ¬ j = 2 → addK B w r o c 0 j = B 0 j := fun j hj => addK_o (by omega) (by omega)
  have zW : bW (addK B w r o c) = bW B := z 0 (by omega)
  have zH : bH (addK B w r o c) = bH B := z 1 (by omega)
  have zM : bM (addK B w r o c) = bM B := z 3 (by omega)
  have zF : bF (addK B w r o c) = bF B := z 4 (by omega)
  have zG : bGr (addK B w r o c) = bGr B := z 5 (by omega)
  have zS : bSl (addK B w r o c) = bSl B := z 6 (by omega)
  have zD0 : bD (addK B w r o c) 0 = bD B 0 := addK_o (by omega) (by omega)
  have zD1 : bD (addK B w r o c) 1 = bD B 1 := addK_o (by omega) (by omega)
  refine ⟨⟨by rw [zW, zH]; exact a1, by rw [n1, zM, zF]; omega, by rw [zD0, zD1]; exact a3, by rw [zG, zS]; exact a4⟩, ⟨fun k k0 k1 => ?_, fun k k0 k1 => ?_, fun k k0 k1 => ?_, Hv_o b4 (z 7 (by omega)) (fun i => addK_o (by omega) (by omega))⟩, ⟨fun k k0 k1 => ?_, fun k l k0 k1 l0 l1 => ?_, fun k k0 k1 => ?_, c4⟩, ?_⟩
  · rw [n1] at k1
    by_cases e : k = bK B
    · subst e
      rw [n2, n3, n4, n5]
      omega
    · rw [show wy (addK B w r o c) k = wy B k from addK_o (by omega) (by omega), show rch (addK B w r o c) k = rch B k from addK_o (by omega) (by omega), show wo (addK B w r o c) k = wo B k from addK_o (by omega) (by omega), show cr (addK B w r o c) k = cr B k from addK_o (by omega) (by omega)]
      exact b1 k k0 (by omega)
  · rw [zM] at k1
    rw [show kd (addK B w r o c) k = kd B k from addK_o (by omega) (by omega), show sd (addK B w r o c) k = sd B k from addK_o (by omega) (by omega), n1]
    have := b2 k k0 k1
    omega
  · rw [zF] at k1
    rw [show fx (addK B w r o c) k = fx B k from addK_o (by omega) (by omega), show fy (addK B w r o c) k = fy B k from addK_o (by omega) (by omega), zW, zH]
    exact b3 k k0 k1
  · rw [zM] at k1
    rw [zW, zH]
    exact c1 k k0 k1
  · rw [zM] at k1 l1
    exact c2 k l k0 k1 l0 l1
  · rw [zF] at k1
    exact c3 k k0 k1
  · refine nv_a (B := B) (k := 0) d (fun j j0 j1 => ?_) hn
    have : j = 0 ∨ j = 1 ∨ j = 2 := by omega
    rcases this with rfl | rfl | rfl
    · exact n1
    · exact zM
    · exact zF
theorem DV_M (hV : DV B G N) (hK : bM B < 8) {k t x y : Int} {nm : List Int} (hn : NV nm) (hk : 0 ≤ k ∧ k < bK B) (ht : 0 ≤ t ∧ t ≤ 1) (hx : 0 ≤ x ∧ x < bW B ∧ 0 ≤ y ∧ y < bH B) (hh : hld B G x y = false) : DV (addM B k t) (gMn G (bM B) x y) (adN N 1 (bM B) nm) := by
  obtain ⟨⟨a1, a2, a3, a4⟩, ⟨b1, b2, b3, b4⟩, ⟨c1, c2, c3, c4⟩, d⟩ := hV
  obtain ⟨n1, n2, n3⟩ := addM_n (B := B) (k := k) (t := t)
  obtain ⟨g1, g2⟩ := gMn_n (G := G) (m := bM B) (x := x) (y := y)
  have z : ∀ j : Int, ¬ j = 3 → addM B k t 0 j = B 0 j := fun j hj => addM_o (by omega) (by omega)
  have zW : bW (addM B k t) = bW B := z 0 (by omega)
  have zH : bH (addM B k t) = bH B := z 1 (by omega)
  have zK : bK (addM B k t) = bK B := z 2 (by omega)
  have zF : bF (addM B k t) = bF B := z 4 (by omega)
  have zG : bGr (addM B k t) = bGr B := z 5 (by omega)
  have zS : bSl (addM B k t) = bSl B := z 6 (by omega)
  have zD0 : bD (addM B k t) 0 = bD B 0 := addM_o (by omega) (by omega)
  have zD1 : bD (addM B k t) 1 = bD B 1 := addM_o (by omega) (by omega)
  have gxo : ∀ q : Int, ¬ q = bM B → gx (gMn G (bM B) x y) q = gx G q := fun q hq => gMn_o (by omega)
  have gyo : ∀ q : Int, ¬ q = bM B → gy (gMn G (bM B) x y) q = gy G q := fun q hq => gMn_o (by omega)
  have hno : ∀ q : Int, 0 ≤ q → q < bM B → ¬ (gx G q = x ∧ gy G q = y) := by
    intro q q0 q1 hq
    unfold hld at hh
    rw [List.any_eq_false] at hh
    exact hh q (mem_upto.mpr ⟨by omega, by omega⟩) (decide_eq_true hq)
  refine ⟨⟨by rw [zW, zH]; exact a1, by rw [n1, zK, zF]; omega, by rw [zD0, zD1]; exact a3, by rw [zG, zS]; exact a4⟩, ⟨fun q k0 k1 => ?_, fun q k0 k1 => ?_, fun q k0 k1 => ?_, Hv_o b4 (z 7 (by omega)) (fun i => addM_o (by omega) (by omega))⟩, ⟨fun q k0 k1 => ?_, fun q l k0 k1 l0 l1 q1 q2 q3 => ?_, fun q k0 k1 => ?_, ?_, ?_⟩, ?_⟩
  · rw [zK] at k1
    rw [show wy (addM B k t) q = wy B q from addM_o (by omega) (by omega), show rch (addM B k t) q = rch B q from addM_o (by omega) (by omega), show wo (addM B k t) q = wo B q from addM_o (by omega) (by omega), show cr (addM B k t) q = cr B q from addM_o (by omega) (by omega)]
    exact b1 q k0 k1
  · rw [n1] at k1
    rw [zK]
    by_cases e : q = bM B
    · subst e
      rw [n2, n3]
      omega
    · rw [show kd (addM B k t) q = kd B q from addM_o (by omega) (by omega), show sd (addM B k t) q = sd B q from addM_o (by omega) (by omega)]
      exact b2 q k0 (by omega)
  · rw [zF] at k1
    rw [show fx (addM B k t) q = fx B q from addM_o (by omega) (by omega), show fy (addM B k t) q = fy B q from addM_o (by omega) (by omega), zW, zH]
    exact b3 q k0 k1
  · rw [n1] at k1
    rw [zW, zH]
    by_cases e : q = bM B
    · subst e
      rw [g1, g2]
      exact hx
    · rw [gxo q e, gyo q e]
      exact c1 q k0 (by omega)
  · rw [n1] at k1 l1
    by_cases e1 : q = bM B
    · by_cases e2 : l = bM B
      · omega
      · exfalso
        subst e1
        rw [g1, gxo l e2] at q2
        rw [g2, gyo l e2] at q3
        exact hno l l0 (by omega) ⟨q2.symm, q3.symm⟩
    · by_cases e2 : l = bM B
      · exfalso
        subst e2
        rw [g1, gxo q e1] at q2
        rw [g2, gyo q e1] at q3
        exact hno q k0 (by omega) ⟨q2, q3⟩
      · rw [gxo q e1] at q1
        rw [gxo q e1, gxo l e2] at q2
        rw [gyo q e1, gyo l e2] at q3
        exact c2 q l k0 (by omega) l0 (by omega) q1 q2 q3
  · rw [zF] at k1
    rw [show gb (gMn G (bM B) x y) q = gb G q from gMn_o (by omega)]
    exact c3 q k0 k1
  · rw [show gd_ (gMn G (bM B) x y) = gd_ G from gMn_o (by omega)]
    exact c4.1
  · rw [show gs (gMn G (bM B) x y) = gs G from gMn_o (by omega)]
    exact c4.2
  · refine nv_a (B := B) (k := 1) d (fun j j0 j1 => ?_) hn
    have : j = 0 ∨ j = 1 ∨ j = 2 := by omega
    rcases this with rfl | rfl | rfl
    · exact zK
    · exact n1
    · exact zF
theorem DV_F (hV : DV B G N) (hK : bF B < 6) {x y v : Int} {nm : List Int} (hn : NV nm) (hx : 0 ≤ x ∧ x < bW B ∧ 0 ≤ y ∧ y < bH B) (hv : 1 ≤ v ∧ v ≤ 999) : DV (addF B x y) (gFd G (bF B) v) (adN N 2 (bF B) nm) := by
  obtain ⟨⟨a1, a2, a3, a4⟩, ⟨b1, b2, b3, b4⟩, ⟨c1, c2, c3, c4⟩, d⟩ := hV
  obtain ⟨n1, n2, n3⟩ := addF_n (B := B) (x := x) (y := y)
  have g1 := gFd_n (G := G) (f := bF B) (v := v)
  have z : ∀ j : Int, ¬ j = 4 → addF B x y 0 j = B 0 j := fun j hj => addF_o (by omega) (by omega)
  have zW : bW (addF B x y) = bW B := z 0 (by omega)
  have zH : bH (addF B x y) = bH B := z 1 (by omega)
  have zK : bK (addF B x y) = bK B := z 2 (by omega)
  have zM : bM (addF B x y) = bM B := z 3 (by omega)
  have zG : bGr (addF B x y) = bGr B := z 5 (by omega)
  have zS : bSl (addF B x y) = bSl B := z 6 (by omega)
  have zD0 : bD (addF B x y) 0 = bD B 0 := addF_o (by omega) (by omega)
  have zD1 : bD (addF B x y) 1 = bD B 1 := addF_o (by omega) (by omega)
  have gxo : ∀ q : Int, gx (gFd G (bF B) v) q = gx G q := fun q => gFd_o (by omega)
  have gyo : ∀ q : Int, gy (gFd G (bF B) v) q = gy G q := fun q => gFd_o (by omega)
  refine ⟨⟨by rw [zW, zH]; exact a1, by rw [n1, zK, zM]; omega, by rw [zD0, zD1]; exact a3, by rw [zG, zS]; exact a4⟩, ⟨fun q k0 k1 => ?_, fun q k0 k1 => ?_, fun q k0 k1 => ?_, Hv_o b4 (z 7 (by omega)) (fun i => addF_o (by omega) (by omega))⟩, ⟨fun q k0 k1 => ?_, fun q l k0 k1 l0 l1 q1 q2 q3 => ?_, fun q k0 k1 => ?_, ?_, ?_⟩, ?_⟩
  · rw [zK] at k1
    rw [show wy (addF B x y) q = wy B q from addF_o (by omega) (by omega), show rch (addF B x y) q = rch B q from addF_o (by omega) (by omega), show wo (addF B x y) q = wo B q from addF_o (by omega) (by omega), show cr (addF B x y) q = cr B q from addF_o (by omega) (by omega)]
    exact b1 q k0 k1
  · rw [zM] at k1
    rw [zK, show kd (addF B x y) q = kd B q from addF_o (by omega) (by omega), show sd (addF B x y) q = sd B q from addF_o (by omega) (by omega)]
    exact b2 q k0 k1
  · rw [n1] at k1
    rw [zW, zH]
    by_cases e : q = bF B
    · subst e
      rw [n2, n3]
      exact hx
    · rw [show fx (addF B x y) q = fx B q from addF_o (by omega) (by omega), show fy (addF B x y) q = fy B q from addF_o (by omega) (by omega)]
      exact b3 q k0 (by omega)
  · rw [zM] at k1
    rw [zW, zH, gxo, gyo]
    exact c1 q k0 k1
  · rw [zM] at k1 l1
    rw [gxo] at q1
    rw [gxo, gxo] at q2
    rw [gyo, gyo] at q3
    exact c2 q l k0 k1 l0 l1 q1 q2 q3
  · rw [n1] at k1
    by_cases e : q = bF B
    · subst e
      rw [g1]
      omega
    · rw [show gb (gFd G (bF B) v) q = gb G q from gFd_o (by omega)]
      exact c3 q k0 (by omega)
  · rw [show gd_ (gFd G (bF B) v) = gd_ G from gFd_o (by omega)]
    exact c4.1
  · rw [show gs (gFd G (bF B) v) = gs G from gFd_o (by omega)]
    exact c4.2
  · refine nv_a (B := B) (k := 2) d (fun j j0 j1 => ?_) hn
    have : j = 0 ∨ j = 1 ∨ j = 2 := by omega
    rcases this with rfl | rfl | rfl
    · exact zK
    · exact zM
    · exact n1
theorem upto_gtl (l : List Int) : ∀ (m : Nat) (i : Nat), i + m = l.length → (upto m (i : Int)).map (fun j => l.getD j.toNat 0) = l.drop i
  | 0, i, h => by
    rw [List.drop_of_length_le (by omega)]
    rfl
  | m + 1, i, h => by
    have hi : i < l.length := by omega
    show l.getD ((i : Int)).toNat 0 :: (upto m ((i : Int) + 1)).map (fun j => l.getD j.toNat 0) = l.drop i
    have ih := upto_gtl l m (i + 1) (by omega)
    rw [show ((i + 1 : Nat) : Int) = (i : Int) + 1 by omega] at ih
    rw [ih, List.drop_eq_getElem_cons hi, show ((i : Int)).toNat = i by omega, List.getD_eq_getElem?_getD, List.getElem?_eq_getElem hi]
    rfl
theorem setH_o {l : List Int} {i : Nat} {j : Int} (h : ¬ i = 11) (h2 : ¬ (i = 0 ∧ j = 7)) : setH B l i j = B i j := by
  unfold setH
  rw [if_neg h, if_neg h2]
theorem setH_n {l : List Int} : bHm (setH B l) = (l.length : Int) ∧ ∀ i : Int, hcd (setH B l) i = l.getD i.toNat 0 := ⟨by show setH B l 0 7 = _; unfold setH; rw [if_neg (by omega), if_pos ⟨rfl, rfl⟩], fun i => by show setH B l 11 i = _; unfold setH; rw [if_pos rfl]⟩
theorem setH_L {l : List Int} : hL (setH B l) = l := by
  obtain ⟨h1, h2⟩ := setH_n (B := B) (l := l)
  unfold hL
  rw [h1, show hcd (setH B l) = fun i => l.getD i.toNat 0 from funext h2]
  have := upto_gtl l l.length 0 (by omega)
  rw [List.drop_zero] at this
  exact this
theorem DV_H (hV : DV B G N) {l : List Int} (hl : (l.length : Int) ≤ 1600) (hw : TW false 21 false l) : DV (setH B l) G N := by
  obtain ⟨⟨a1, a2, a3, a4⟩, ⟨b1, b2, b3, b4⟩, ⟨c1, c2, c3, c4⟩, d⟩ := hV
  have z : ∀ (i : Nat) (j : Int), ¬ i = 11 → ¬ (i = 0 ∧ j = 7) → setH B l i j = B i j := fun i j h1 h2 => setH_o h1 h2
  obtain ⟨n1, n2⟩ := setH_n (B := B) (l := l)
  have zW : bW (setH B l) = bW B := z 0 0 (by omega) (by omega)
  have zH : bH (setH B l) = bH B := z 0 1 (by omega) (by omega)
  have zK : bK (setH B l) = bK B := z 0 2 (by omega) (by omega)
  have zM : bM (setH B l) = bM B := z 0 3 (by omega) (by omega)
  have zF : bF (setH B l) = bF B := z 0 4 (by omega) (by omega)
  have zG : bGr (setH B l) = bGr B := z 0 5 (by omega) (by omega)
  have zS : bSl (setH B l) = bSl B := z 0 6 (by omega) (by omega)
  have zc : ∀ j : Int, cnt (setH B l) j = cnt B j := fun j => by unfold cnt; rw [zK, zM, zF]
  refine ⟨⟨by rw [zW, zH]; exact a1, by rw [zK, zM, zF]; exact a2, by rw [show bD (setH B l) 0 = bD B 0 from z 1 0 (by omega) (by omega), show bD (setH B l) 1 = bD B 1 from z 1 1 (by omega) (by omega)]; exact a3, by rw [zG, zS]; exact a4⟩, ⟨fun q k0 k1 => ?_, fun q k0 k1 => ?_, fun q k0 k1 => ?_, Or.inr ⟨by rw [n1]; omega, by rw [n1]; exact hl, ?_, fun i i0 i1 => ?_⟩⟩, ⟨fun q k0 k1 => ?_, fun q k k0 k1 l0 l1 => ?_, fun q k0 k1 => ?_, c4⟩, fun j w j0 j1 w0 w1 => d j w j0 j1 w0 (by rw [zc] at w1; exact w1)⟩
  · rw [zK] at k1
    exact b1 q k0 k1
  · rw [zM] at k1
    have := b2 q k0 k1
    rw [zK]
    exact this
  · rw [zF] at k1
    rw [zW, zH]
    exact b3 q k0 k1
  · rw [setH_L]
    exact hw.1 [] (by decide)
  · rw [n1] at i1
    rw [n2]
    have hi : i.toNat < l.length := by omega
    have hm := hw.2 (l.getD i.toNat 0) (by rw [List.getD_eq_getElem?_getD, List.getElem?_eq_getElem hi]; exact List.getElem_mem hi)
    unfold hc1
    rcases hm with h | h | h | h
    · exact Or.inl h.1
    · exact Or.inr (Or.inr h)
    · exact Or.inr (Or.inl h.2)
    · cases h.1
  · rw [zM] at k1
    rw [zW, zH]
    exact c1 q k0 k1
  · rw [zM] at k1 l1
    exact c2 q k k0 k1 l0 l1
  · rw [zF] at k1
    exact c3 q k0 k1
theorem DV_S (hV : DV B G N) {j v : Int} (hj : (j = 5 ∧ 0 ≤ v ∧ v ≤ 99) ∨ (j = 6 ∧ 0 ≤ v ∧ v ≤ 100)) : DV (sB B 0 j v) G N := by
  obtain ⟨⟨a1, a2, a3, a4⟩, ⟨b1, b2, b3, b4⟩, ⟨c1, c2, c3, c4⟩, d⟩ := hV
  have z : ∀ (i : Nat) (k : Int), ¬ (i = 0 ∧ k = j) → sB B 0 j v i k = B i k := fun i k h => if_neg h
  have zW : bW (sB B 0 j v) = bW B := z 0 0 (by omega)
  have zH : bH (sB B 0 j v) = bH B := z 0 1 (by omega)
  have zK : bK (sB B 0 j v) = bK B := z 0 2 (by omega)
  have zM : bM (sB B 0 j v) = bM B := z 0 3 (by omega)
  have zF : bF (sB B 0 j v) = bF B := z 0 4 (by omega)
  have zc : ∀ k : Int, cnt (sB B 0 j v) k = cnt B k := fun k => by unfold cnt; rw [zK, zM, zF]
  refine ⟨⟨by rw [zW, zH]; exact a1, by rw [zK, zM, zF]; exact a2, by rw [show bD (sB B 0 j v) 0 = bD B 0 from z 1 0 (by omega), show bD (sB B 0 j v) 1 = bD B 1 from z 1 1 (by omega)]; exact a3, ?_⟩, ⟨fun q k0 k1 => ?_, fun q k0 k1 => ?_, fun q k0 k1 => ?_, Hv_o b4 (z 0 7 (by omega)) (fun i => z 11 i (by omega))⟩, ⟨fun q k0 k1 => ?_, fun q k k0 k1 l0 l1 => ?_, fun q k0 k1 => ?_, c4⟩, fun i w j0 j1 w0 w1 => d i w j0 j1 w0 (by rw [zc] at w1; exact w1)⟩
  · rcases hj with ⟨rfl, v0, v1⟩ | ⟨rfl, v0, v1⟩
    · rw [show bGr (sB B 0 5 v) = v from sB_e rfl rfl, show bSl (sB B 0 5 v) = bSl B from z 0 6 (by omega)]
      omega
    · rw [show bSl (sB B 0 6 v) = v from sB_e rfl rfl, show bGr (sB B 0 6 v) = bGr B from z 0 5 (by omega)]
      omega
  · rw [zK] at k1
    rw [show wy (sB B 0 j v) q = wy B q from z 2 q (by omega), show rch (sB B 0 j v) q = rch B q from z 3 q (by omega), show wo (sB B 0 j v) q = wo B q from z 4 q (by omega), show cr (sB B 0 j v) q = cr B q from z 5 q (by omega)]
    exact b1 q k0 k1
  · rw [zM] at k1
    rw [zK, show kd (sB B 0 j v) q = kd B q from z 6 q (by omega), show sd (sB B 0 j v) q = sd B q from z 7 q (by omega)]
    exact b2 q k0 k1
  · rw [zF] at k1
    rw [zW, zH, show fx (sB B 0 j v) q = fx B q from z 8 q (by omega), show fy (sB B 0 j v) q = fy B q from z 9 q (by omega)]
    exact b3 q k0 k1
  · rw [zM] at k1
    rw [zW, zH]
    exact c1 q k0 k1
  · rw [zM] at k1 l1
    exact c2 q k k0 k1 l0 l1
  · rw [zF] at k1
    exact c3 q k0 k1
