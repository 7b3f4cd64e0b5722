/-! L3: the class reads kinds, men, fields -/
variable {T : Int → Int} {n : Int} {B : Brd} {G : Gam} {N : Int → Int → List Int} {p : Nat}
def CBp (p : Nat) (s s' : ST) : Prop := (∀ o k : Nat, ¬ o = 3 → ¬ (p ≤ o ∧ o ≤ p + 13) → s'.1 o k = s.1 o k) ∧ s'.2 = s.2
theorem CBp.tr {s t u : ST} (h1 : CBp p s t) (h2 : CBp p t u) : CBp p s u := ⟨fun o k x y => (h2.1 o k x y).trans (h1.1 o k x y), h2.2.trans h1.2⟩
theorem CFr.bp {s s' : ST} (h : CFr s s') (p : Nat) : CBp p s s' := ⟨fun o k x _ => h.1 o k x, h.2⟩
theorem CG_c {α : Type} {r : EX (α × Cur)} {s : ST} {Q : α × Cur → Prop} (h : RQ r (fun a => CC T n a.2 s ∧ Q a) (fun k q => CD k q s)) : CG T n (cu r) s := by
  cases r with
  | error e => exact h
  | ok a => exact h.1
theorem c_begins {c : Cur} {s : ST} (h : CC T n c s) {v m : Int} (v0 : 0 ≤ v) (v1 : v ≤ 100) (m0 : 0 ≤ m) (m1 : m ≤ 100) : (v < m → ∃ s', f_X8_begins (Int32.ofInt v) (Int32.ofInt m) s = some (Int32.ofInt 1, s') ∧ CC T n (nx T n c) s' ∧ CFr s s') ∧ (¬ v < m → ∃ s', f_X8_begins (Int32.ofInt v) (Int32.ofInt m) s = some (Int32.ofInt 0, s') ∧ CD 5 (frm T n c) s' ∧ CFr s s') := by
  constructor
  · intro e
    obtain ⟨s', q1, q2, q3⟩ := c_step h
    refine ⟨s', ?_, q2, q3⟩
    simp (disch := omega) only [f_X8_begins, ↓bb q1, n_i8, n_i16, n_0, n_31, n_add, n_sub, n_mul, n_neg, n_div, n_rem, n_le_t, n_le_f, n_lt_t, n_lt_f, n_eq_t, n_eq_f, n_cl, n_gd, n_gdt, n_nz, Int.reduceToNat, Int.reduceAdd, Int.reduceSub, Int.reduceMul, Int.reduceNeg, Int.reduceLT, Int.reduceLE, Int.reduceEq, Int.reduceDiv, Int.reduceMod, Nat.reduceAdd, Nat.reduceMul, ↓reduceIte]
  · intro e
    obtain ⟨s', q1, q2, q3⟩ := c_fail (k := 5) (p := frm T n c) h.2.2.2.2.2.2.1 (by omega) (by omega)
    have h31 := h.2.2.1
    refine ⟨s', ?_, q2, q3⟩
    simp (disch := omega) only [f_X8_begins, h31, ↓bb q1, n_i8, n_i16, n_0, n_31, n_add, n_sub, n_mul, n_neg, n_div, n_rem, n_le_t, n_le_f, n_lt_t, n_lt_f, n_eq_t, n_eq_f, n_cl, n_gd, n_gdt, n_nz, Int.reduceToNat, Int.reduceAdd, Int.reduceSub, Int.reduceMul, Int.reduceNeg, Int.reduceLT, Int.reduceLE, Int.reduceEq, Int.reduceDiv, Int.reduceMod, Nat.reduceAdd, Nat.reduceMul, ↓reduceIte]
theorem CDf_K {w r o c : Int} {nm : List Int} {s s' : ST} (hV : DV B G N) (h : CDf B G N p s) (hK : bK B < 5) (hf : ∀ a k : Nat, p ≤ a → a ≤ p + 13 → ¬ ((a = p ∧ k = 3) ∨ (p + 2 ≤ a ∧ a ≤ p + 5 ∧ k = (bK B).toNat) ∨ (a = p + 11 ∧ k = (bK B).toNat)) → s'.1 a k = s.1 a k) (c1 : s'.1 p 3 = Int32.ofInt (bK B + 1)) (c2 : s'.1 (p + 2) (bK B).toNat = Int32.ofInt w) (c3 : s'.1 (p + 3) (bK B).toNat = Int32.ofInt r) (c4 : s'.1 (p + 4) (bK B).toNat = Int32.ofInt o) (c5 : s'.1 (p + 5) (bK B).toNat = Int32.ofInt c) (c9 : s'.1 (p + 11) (bK B).toNat = Int32.ofInt (b32 nm)) : CDf (addK B w r o c) G (adN N 0 (bK B) nm) p s' := by
  have hVb := hV.1.2.1
  obtain ⟨n1, n2, n3, n4, n5⟩ := addK_n (B := B) (w := w) (r := r) (o := o) (c := c)
  have z : ∀ j : Int, ¬ j = 2 → addK B w r o c 0 j = B 0 j := fun j hj => addK_o (by omega) (by omega)
  have zW : bW (addK B w r o c) = bW B := z 0 (by omega)
  have zH : bH (addK B w r o c) = bH B := z 1 (by omega)
  have zM : bM (addK B w r o c) = bM B := z 3 (by omega)
  have zF : bF (addK B w r o c) = bF B := z 4 (by omega)
  have zG : bGr (addK B w r o c) = bGr B := z 5 (by omega)
  have zS : bSl (addK B w r o c) = bSl B := z 6 (by omega)
  have zh : bHm (addK B w r o c) = bHm B := z 7 (by omega)
  obtain ⟨⟨⟨a1, a2, a3, a4, a5, a6, a7⟩, b1, b2, b3, b4⟩, ⟨d1, d2⟩, d3, d4, d5⟩ := h
  refine ⟨⟨⟨by rw [zW]; exact (hf _ _ (by omega) (by omega) (by omega)).trans a1, by rw [zH]; exact (hf _ _ (by omega) (by omega) (by omega)).trans a2, by rw [n1]; exact c1, by rw [zM]; exact (hf _ _ (by omega) (by omega) (by omega)).trans a4, by rw [zF]; exact (hf _ _ (by omega) (by omega) (by omega)).trans a5, by rw [zG]; exact (hf _ _ (by omega) (by omega) (by omega)).trans a6, by rw [zS]; exact (hf _ _ (by omega) (by omega) (by omega)).trans a7⟩, fun k k0 k1 => ?_, fun k k0 k1 => ?_, fun k k0 k1 => ?_, ?_⟩, ⟨?_, ?_⟩, fun m m0 m1 => ?_, fun f f0 f1 => ?_, ?_⟩
  · rw [n1] at k1
    by_cases e : k = bK B
    · subst e
      rw [n2, n3, n4, n5]
      exact ⟨c2, c3, c4, c5⟩
    · obtain ⟨x1, x2, x3, x4⟩ := b1 k k0 (by omega)
      rw [show wy (addK B w r o c) k = wy B k from addK_o (by omega) (by omega), show rch (addK B w r o c) k = rch B k from addK_o (by omega) (by omega), show wo (addK B w r o c) k = wo B k from addK_o (by omega) (by omega), show cr (addK B w r o c) k = cr B k from addK_o (by omega) (by omega)]
      exact ⟨(hf _ _ (by omega) (by omega) (by omega)).trans x1, (hf _ _ (by omega) (by omega) (by omega)).trans x2, (hf _ _ (by omega) (by omega) (by omega)).trans x3, (hf _ _ (by omega) (by omega) (by omega)).trans x4⟩
  · rw [zM] at k1
    obtain ⟨x1, x2⟩ := b2 k k0 k1
    rw [show kd (addK B w r o c) k = kd B k from addK_o (by omega) (by omega), show sd (addK B w r o c) k = sd B k from addK_o (by omega) (by omega)]
    exact ⟨(hf _ _ (by omega) (by omega) (by omega)).trans x1, (hf _ _ (by omega) (by omega) (by omega)).trans x2⟩
  · rw [zF] at k1
    rw [show fx (addK B w r o c) k = fx B k from addK_o (by omega) (by omega), show fy (addK B w r o c) k = fy B k from addK_o (by omega) (by omega)]
    exact (hf _ _ (by omega) (by omega) (by omega)).trans (b3 k k0 k1)
  · unfold PBh
    rw [zh]
    rcases b4 with ⟨x1, x2⟩ | ⟨x1, x2, x3, x4, x5⟩
    · exact Or.inl ⟨x1, (hf _ _ (by omega) (by omega) (by omega)).trans x2⟩
    · exact Or.inr ⟨x1, x2, (hf _ _ (by omega) (by omega) (by omega)).trans x3, (hf _ _ (by omega) (by omega) (by omega)).trans x4, fun i i0 i1 => by rw [show hcd (addK B w r o c) i = hcd B i from addK_o (by omega) (by omega)]; exact (hf _ _ (by omega) (by omega) (by omega)).trans (x5 i i0 i1)⟩
  · rw [show bD (addK B w r o c) 0 = bD B 0 from addK_o (by omega) (by omega)]
    exact (hf _ _ (by omega) (by omega) (by omega)).trans d1
  · rw [show bD (addK B w r o c) 1 = bD B 1 from addK_o (by omega) (by omega)]
    exact (hf _ _ (by omega) (by omega) (by omega)).trans d2
  · rw [zM] at m1
    exact (hf _ _ (by omega) (by omega) (by omega)).trans (d3 m m0 m1)
  · rw [zF] at f1
    exact (hf _ _ (by omega) (by omega) (by omega)).trans (d4 f f0 f1)
  · intro j j0 j1
    unfold nsl
    rw [n1, zM, zF]
    by_cases e : j = bK B
    · subst e
      rw [c9, if_pos (by omega), if_pos (by omega)]
      unfold adN
      rw [if_pos ⟨rfl, rfl⟩]
    · rw [hf _ _ (by omega) (by omega) (by omega), d5 j j0 j1]
      congr 1
      unfold nsl adN
      (repeat' split) <;> first | rfl | (exfalso; omega)
theorem CDf_M {k t x y : Int} {nm : List Int} {s s' : ST} (hV : DV B G N) (h : CDf B G N p s) (hK : bM B < 8) (hf : ∀ a q : Nat, p ≤ a → a ≤ p + 13 → ¬ ((a = p ∧ q = 8) ∨ (p + 6 ≤ a ∧ a ≤ p + 8 ∧ q = (bM B).toNat) ∨ (a = p + 11 ∧ q = (5 + bM B).toNat)) → s'.1 a q = s.1 a q) (c1 : s'.1 p 8 = Int32.ofInt (bM B + 1)) (c2 : s'.1 (p + 6) (bM B).toNat = Int32.ofInt k) (c3 : s'.1 (p + 7) (bM B).toNat = Int32.ofInt t) (c4 : s'.1 (p + 8) (bM B).toNat = Int32.ofInt (5 * y + x)) (c9 : s'.1 (p + 11) (5 + bM B).toNat = Int32.ofInt (b32 nm)) : CDf (addM B k t) (gMn G (bM B) x y) (adN N 1 (bM B) nm) p s' := by
  have hVb := hV.1.2.1
  obtain ⟨n1, n2, n3⟩ := addM_n (B := B) (k := k) (t := t)
  obtain ⟨g1, g2⟩ := gMn_n (G := G) (m := bM B) (x := x) (y := y)
  have z : ∀ j : Int, ¬ j = 3 → addM B k t 0 j = B 0 j := fun j hj => addM_o (by omega) (by omega)
  have zW : bW (addM B k t) = bW B := z 0 (by omega)
  have zH : bH (addM B k t) = bH B := z 1 (by omega)
  have zK : bK (addM B k t) = bK B := z 2 (by omega)
  have zF : bF (addM B k t) = bF B := z 4 (by omega)
  have zG : bGr (addM B k t) = bGr B := z 5 (by omega)
  have zS : bSl (addM B k t) = bSl B := z 6 (by omega)
  have zh : bHm (addM B k t) = bHm B := z 7 (by omega)
  obtain ⟨⟨⟨a1, a2, a3, a4, a5, a6, a7⟩, b1, b2, b3, b4⟩, ⟨d1, d2⟩, d3, d4, d5⟩ := h
  refine ⟨⟨⟨by rw [zW]; exact (hf _ _ (by omega) (by omega) (by omega)).trans a1, by rw [zH]; exact (hf _ _ (by omega) (by omega) (by omega)).trans a2, by rw [zK]; exact (hf _ _ (by omega) (by omega) (by omega)).trans a3, by rw [n1]; exact c1, by rw [zF]; exact (hf _ _ (by omega) (by omega) (by omega)).trans a5, by rw [zG]; exact (hf _ _ (by omega) (by omega) (by omega)).trans a6, by rw [zS]; exact (hf _ _ (by omega) (by omega) (by omega)).trans a7⟩, fun q k0 k1 => ?_, fun q k0 k1 => ?_, fun q k0 k1 => ?_, ?_⟩, ⟨?_, ?_⟩, fun q m0 m1 => ?_, fun f f0 f1 => ?_, ?_⟩
  · rw [zK] at k1
    obtain ⟨x1, x2, x3, x4⟩ := b1 q k0 k1
    rw [show wy (addM B k t) q = wy B q from addM_o (by omega) (by omega), show rch (addM B k t) q = rch B q from addM_o (by omega) (by omega), show wo (addM B k t) q = wo B q from addM_o (by omega) (by omega), show cr (addM B k t) q = cr B q from addM_o (by omega) (by omega)]
    exact ⟨(hf _ _ (by omega) (by omega) (by omega)).trans x1, (hf _ _ (by omega) (by omega) (by omega)).trans x2, (hf _ _ (by omega) (by omega) (by omega)).trans x3, (hf _ _ (by omega) (by omega) (by omega)).trans x4⟩
  · rw [n1] at k1
    by_cases e : q = bM B
    · subst e
      rw [n2, n3]
      exact ⟨c2, c3⟩
    · obtain ⟨x1, x2⟩ := b2 q k0 (by omega)
      rw [show kd (addM B k t) q = kd B q from addM_o (by omega) (by omega), show sd (addM B k t) q = sd B q from addM_o (by omega) (by omega)]
      exact ⟨(hf _ _ (by omega) (by omega) (by omega)).trans x1, (hf _ _ (by omega) (by omega) (by omega)).trans x2⟩
  · rw [zF] at k1
    rw [show fx (addM B k t) q = fx B q from addM_o (by omega) (by omega), show fy (addM B k t) q = fy B q from addM_o (by omega) (by omega)]
    exact (hf _ _ (by omega) (by omega) (by omega)).trans (b3 q k0 k1)
  · unfold PBh
    rw [zh]
    rcases b4 with ⟨x1, x2⟩ | ⟨x1, x2, x3, x4, x5⟩
    · exact Or.inl ⟨x1, (hf _ _ (by omega) (by omega) (by omega)).trans x2⟩
    · exact Or.inr ⟨x1, x2, (hf _ _ (by omega) (by omega) (by omega)).trans x3, (hf _ _ (by omega) (by omega) (by omega)).trans x4, fun i i0 i1 => by rw [show hcd (addM B k t) i = hcd B i from addM_o (by omega) (by omega)]; exact (hf _ _ (by omega) (by omega) (by omega)).trans (x5 i i0 i1)⟩
  · rw [show bD (addM B k t) 0 = bD B 0 from addM_o (by omega) (by omega)]
    exact (hf _ _ (by omega) (by omega) (by omega)).trans d1
  · rw [show bD (addM B k t) 1 = bD B 1 from addM_o (by omega) (by omega)]
    exact (hf _ _ (by omega) (by omega) (by omega)).trans d2
  · rw [n1] at m1
    by_cases e : q = bM B
    · subst e
      rw [g1, g2]
      exact c4
    · rw [show gx (gMn G (bM B) x y) q = gx G q from gMn_o (by omega), show gy (gMn G (bM B) x y) q = gy G q from gMn_o (by omega)]
      exact (hf _ _ (by omega) (by omega) (by omega)).trans (d3 q m0 (by omega))
  · rw [zF] at f1
    rw [show gb (gMn G (bM B) x y) f = gb G f from gMn_o (by omega)]
    exact (hf _ _ (by omega) (by omega) (by omega)).trans (d4 f f0 f1)
  · intro j j0 j1
    unfold nsl
    rw [n1, zK, zF]
    by_cases e : j = 5 + bM B
    · subst e
      rw [c9, if_neg (by omega), if_pos (by omega), if_pos (by omega)]
      unfold adN
      rw [if_pos ⟨rfl, by omega⟩]
    · rw [hf _ _ (by omega) (by omega) (by omega), d5 j j0 j1]
      congr 1
      unfold nsl adN
      (repeat' split) <;> first | rfl | (exfalso; omega)
theorem CDf_F {x y v : Int} {nm : List Int} {s s' : ST} (hV : DV B G N) (h : CDf B G N p s) (hK : bF B < 6) (hf : ∀ a q : Nat, p ≤ a → a ≤ p + 13 → ¬ ((a = p ∧ q = 12) ∨ (p + 9 ≤ a ∧ a ≤ p + 10 ∧ q = (bF B).toNat) ∨ (a = p + 11 ∧ q = (13 + bF B).toNat)) → s'.1 a q = s.1 a q) (c1 : s'.1 p 12 = Int32.ofInt (bF B + 1)) (c2 : s'.1 (p + 9) (bF B).toNat = Int32.ofInt (5 * y + x)) (c3 : s'.1 (p + 10) (bF B).toNat = Int32.ofInt v) (c9 : s'.1 (p + 11) (13 + bF B).toNat = Int32.ofInt (b32 nm)) : CDf (addF B x y) (gFd G (bF B) v) (adN N 2 (bF B) nm) p s' := by
  have hVb := hV.1.2.1
  obtain ⟨n1, n2, n3⟩ := addF_n (B := B) (x := x) (y := y)
  have g1 := gFd_n (G := G) (f := bF B) (v := v)
  have z : ∀ j : Int, ¬ j = 4 → addF B x y 0 j = B 0 j := fun j hj => addF_o (by omega) (by omega)
  have zW : bW (addF B x y) = bW B := z 0 (by omega)
  have zH : bH (addF B x y) = bH B := z 1 (by omega)
  have zK : bK (addF B x y) = bK B := z 2 (by omega)
  have zM : bM (addF B x y) = bM B := z 3 (by omega)
  have zG : bGr (addF B x y) = bGr B := z 5 (by omega)
  have zS : bSl (addF B x y) = bSl B := z 6 (by omega)
  have zh : bHm (addF B x y) = bHm B := z 7 (by omega)
  obtain ⟨⟨⟨a1, a2, a3, a4, a5, a6, a7⟩, b1, b2, b3, b4⟩, ⟨d1, d2⟩, d3, d4, d5⟩ := h
  refine ⟨⟨⟨by rw [zW]; exact (hf _ _ (by omega) (by omega) (by omega)).trans a1, by rw [zH]; exact (hf _ _ (by omega) (by omega) (by omega)).trans a2, by rw [zK]; exact (hf _ _ (by omega) (by omega) (by omega)).trans a3, by rw [zM]; exact (hf _ _ (by omega) (by omega) (by omega)).trans a4, by rw [n1]; exact c1, by rw [zG]; exact (hf _ _ (by omega) (by omega) (by omega)).trans a6, by rw [zS]; exact (hf _ _ (by omega) (by omega) (by omega)).trans a7⟩, fun q k0 k1 => ?_, fun q k0 k1 => ?_, fun q k0 k1 => ?_, ?_⟩, ⟨?_, ?_⟩, fun q m0 m1 => ?_, fun f f0 f1 => ?_, ?_⟩
  · rw [zK] at k1
    obtain ⟨x1, x2, x3, x4⟩ := b1 q k0 k1
    rw [show wy (addF B x y) q = wy B q from addF_o (by omega) (by omega), show rch (addF B x y) q = rch B q from addF_o (by omega) (by omega), show wo (addF B x y) q = wo B q from addF_o (by omega) (by omega), show cr (addF B x y) q = cr B q from addF_o (by omega) (by omega)]
    exact ⟨(hf _ _ (by omega) (by omega) (by omega)).trans x1, (hf _ _ (by omega) (by omega) (by omega)).trans x2, (hf _ _ (by omega) (by omega) (by omega)).trans x3, (hf _ _ (by omega) (by omega) (by omega)).trans x4⟩
  · rw [zM] at k1
    obtain ⟨x1, x2⟩ := b2 q k0 k1
    rw [show kd (addF B x y) q = kd B q from addF_o (by omega) (by omega), show sd (addF B x y) q = sd B q from addF_o (by omega) (by omega)]
    exact ⟨(hf _ _ (by omega) (by omega) (by omega)).trans x1, (hf _ _ (by omega) (by omega) (by omega)).trans x2⟩
  · rw [n1] at k1
    by_cases e : q = bF B
    · subst e
      rw [n2, n3]
      exact c2
    · rw [show fx (addF B x y) q = fx B q from addF_o (by omega) (by omega), show fy (addF B x y) q = fy B q from addF_o (by omega) (by omega)]
      exact (hf _ _ (by omega) (by omega) (by omega)).trans (b3 q k0 (by omega))
  · unfold PBh
    rw [zh]
    rcases b4 with ⟨x1, x2⟩ | ⟨x1, x2, x3, x4, x5⟩
    · exact Or.inl ⟨x1, (hf _ _ (by omega) (by omega) (by omega)).trans x2⟩
    · exact Or.inr ⟨x1, x2, (hf _ _ (by omega) (by omega) (by omega)).trans x3, (hf _ _ (by omega) (by omega) (by omega)).trans x4, fun i i0 i1 => by rw [show hcd (addF B x y) i = hcd B i from addF_o (by omega) (by omega)]; exact (hf _ _ (by omega) (by omega) (by omega)).trans (x5 i i0 i1)⟩
  · rw [show bD (addF B x y) 0 = bD B 0 from addF_o (by omega) (by omega)]
    exact (hf _ _ (by omega) (by omega) (by omega)).trans d1
  · rw [show bD (addF B x y) 1 = bD B 1 from addF_o (by omega) (by omega)]
    exact (hf _ _ (by omega) (by omega) (by omega)).trans d2
  · rw [zM] at m1
    rw [show gx (gFd G (bF B) v) q = gx G q from gFd_o (by omega), show gy (gFd G (bF B) v) q = gy G q from gFd_o (by omega)]
    exact (hf _ _ (by omega) (by omega) (by omega)).trans (d3 q m0 m1)
  · rw [n1] at f1
    by_cases e : f = bF B
    · subst e
      rw [g1]
      exact c3
    · rw [show gb (gFd G (bF B) v) f = gb G f from gFd_o (by omega)]
      exact (hf _ _ (by omega) (by omega) (by omega)).trans (d4 f f0 (by omega))
  · intro j j0 j1
    unfold nsl
    rw [n1, zK, zM]
    by_cases e : j = 13 + bF B
    · subst e
      rw [c9, if_neg (by omega), if_neg (by omega), if_pos (by omega)]
      unfold adN
      rw [if_pos ⟨rfl, by omega⟩]
    · rw [hf _ _ (by omega) (by omega) (by omega), d5 j j0 j1]
      congr 1
      unfold nsl adN
      (repeat' split) <;> first | rfl | (exfalso; omega)
theorem c_kndT (hp : p = 6 ∨ p = 20) {c : Cur} {s : ST} (hV : DV B G N) (hD : CDf B G N p s) (hc : CC T n c s) : ∃ s', f_X8_newKind p s = some s' ∧ CBp p s s' ∧ (bK B = 5 → CD 5 (frm T n c) s') ∧ (¬ bK B = 5 → RQ (kndS T n (dupD B N) (nx T n c)) (fun a => CDf (addK B a.1.2.1 a.1.2.2.1 a.1.2.2.2.1 a.1.2.2.2.2) G (adN N 0 (bK B) a.1.1) p s' ∧ CC T n a.2 s') (fun k q => CD k q s')) := by
  have hVb := hV.1.2.1
  have h3 := hD.1.1.2.2.1
  obtain ⟨be1, be2⟩ := c_begins hc (v := bK B) (m := 5) (by omega) (by omega) (by omega) (by omega)
  by_cases e5 : bK B = 5
  · obtain ⟨s', q1, q2, q3⟩ := be2 (by omega)
    refine ⟨s', ?_, q3.bp p, fun _ => q2, fun x => absurd e5 x⟩
    simp (disch := omega) only [f_X8_newKind, h3, ↓bb q1, g_kk, g_k1, g_n1, g_k2, g_n2, g_k3, g_n3, g_k4, g_n4, g_k5, g_n5, g_k7, g_n7, g_k8, g_n8, g_k9, g_n9, g_k6, g_r3, g_r4, g_r5, g_r6, g_r7, g_r10, g_q0, g_q1, g_q2, p_kk, p_k1, p_n1, p_k2, p_n2, p_k3, p_n3, p_k4, p_n4, p_k5, p_n5, p_k6, p_n6, p_k7, p_n7, p_k8, p_n8, p_k9, p_n9, p_k10, p_n10, p_k11, p_n11, p_k13, p_n13, p_k12, p_r2, p_r4, p_r5, p_r6, p_r7, p_r9, p_r10, p_r11, p_r13, p_r14, p_r15, p_r16, p_h0, n_i8, n_i16, n_0, n_31, n_add, n_sub, n_mul, n_neg, n_div, n_rem, n_le_t, n_le_f, n_lt_t, n_lt_f, n_eq_t, n_eq_f, n_cl, n_gd, n_gdt, n_nz, Int.reduceToNat, Int.reduceAdd, Int.reduceSub, Int.reduceMul, Int.reduceNeg, Int.reduceLT, Int.reduceLE, Int.reduceEq, Int.reduceDiv, Int.reduceMod, Nat.reduceAdd, Nat.reduceMul, ↓reduceIte]
  · obtain ⟨s1, q1, r1, p1⟩ := be1 (by omega)
    have hD1 := CDf_fr hD (s' := s1) (fun o k x y => p1.1 o k (by omega))
    obtain ⟨s2, q2, p2, p2b, r2⟩ := c_newN hp hV r1 hD1.2.2.2.2 (sl := bK B) (by omega) (by omega)
    obtain ⟨s3, q3, p3, r3⟩ := k_tW (CG_c r2) (k := 5) (by omega)
    obtain ⟨v4, s4, q4, p4, r4⟩ := k_tN r3 (lo := 1) (hi := 4) (by omega) (by omega) (by omega) (by omega)
    have f5 : ∀ o k : Nat, ¬ (o = p + 2 ∧ k = (bK B).toNat) → (uI s4 (p + 2) (bK B).toNat v4).1 o k = s4.1 o k := fun o k x => by (simp only [ua, ja, u_2, u_3, j_1, j_3]; (repeat' split) <;> first | rfl | (exfalso; omega))
    obtain ⟨s6, q6, p6, r6⟩ := k_tW (CG_fr (CG_cu r4) (s' := uI s4 (p + 2) (bK B).toNat v4) (fun o k x => f5 o k (by omega))) (k := 6) (by omega)
    obtain ⟨v7, s7, q7, p7, r7⟩ := k_tN r6 (lo := 1) (hi := 4) (by omega) (by omega) (by omega) (by omega)
    have f8 : ∀ o k : Nat, ¬ (o = p + 3 ∧ k = (bK B).toNat) → (uI s7 (p + 3) (bK B).toNat v7).1 o k = s7.1 o k := fun o k x => by (simp only [ua, ja, u_2, u_3, j_1, j_3]; (repeat' split) <;> first | rfl | (exfalso; omega))
    obtain ⟨s9, q9, p9, r9⟩ := k_tW (CG_fr (CG_cu r7) (s' := uI s7 (p + 3) (bK B).toNat v7) (fun o k x => f8 o k (by omega))) (k := 7) (by omega)
    obtain ⟨v10, s10, q10, p10, r10⟩ := k_tN r9 (lo := 0) (hi := 99) (by omega) (by omega) (by omega) (by omega)
    have f11 : ∀ o k : Nat, ¬ (o = p + 4 ∧ k = (bK B).toNat) → (uI s10 (p + 4) (bK B).toNat v10).1 o k = s10.1 o k := fun o k x => by (simp only [ua, ja, u_2, u_3, j_1, j_3]; (repeat' split) <;> first | rfl | (exfalso; omega))
    have r11 := CG_fr (CG_cu r10) (s' := uI s10 (p + 4) (bK B).toNat v10) (fun o k x => f11 o k (by omega))
    have q3 : f_X5_takeWord (Int32.ofInt 5) s2 = some s3 := q3
    have q6 : f_X5_takeWord (Int32.ofInt 6) (uI s4 (p + 2) (bK B).toNat v4) = some s6 := q6
    have q9 : f_X5_takeWord (Int32.ofInt 7) (uI s7 (p + 3) (bK B).toNat v7) = some s9 := q9
    have hcl : (Int32.ofInt (bK B)).toNatClampNeg = (bK B).toNat := n_cl (by omega) (by omega)
    have ef : f_X8_newKind p s = (f_X5_isWord (Int32.ofInt 8) (uI s10 (p + 4) (bK B).toNat v10)).bind (fun q23 => (if q23.1 = 0 then f_X8_newKind_j114 p (Int32.ofInt (bK B)) q23.1 q23.2 else (f_X5_step q23.2).bind (fun q25 => f_X8_newKind_j114 p (Int32.ofInt (bK B)) q23.1 q25))) := by
      simp (disch := omega) only [f_X8_newKind, h3, ↓bb q1, ↓bb q2, ↓bb q3, ↓bb q4, ↓bb q6, ↓bb q7, ↓bb q9, ↓bb q10, hcl, g_kk, g_k1, g_n1, g_k2, g_n2, g_k3, g_n3, g_k4, g_n4, g_k5, g_n5, g_k7, g_n7, g_k8, g_n8, g_k9, g_n9, g_k6, g_r3, g_r4, g_r5, g_r6, g_r7, g_r10, g_q0, g_q1, g_q2, p_kk, p_k1, p_n1, p_k2, p_n2, p_k3, p_n3, p_k4, p_n4, p_k5, p_n5, p_k6, p_n6, p_k7, p_n7, p_k8, p_n8, p_k9, p_n9, p_k10, p_n10, p_k11, p_n11, p_k13, p_n13, p_k12, p_r2, p_r4, p_r5, p_r6, p_r7, p_r9, p_r10, p_r11, p_r13, p_r14, p_r15, p_r16, p_h0, n_i8, n_i16, n_0, n_31, n_add, n_sub, n_mul, n_neg, n_div, n_rem, n_le_t, n_le_f, n_lt_t, n_lt_f, n_eq_t, n_eq_f, n_cl, n_gd, n_gdt, n_nz, Int.reduceToNat, Int.reduceAdd, Int.reduceSub, Int.reduceMul, Int.reduceNeg, Int.reduceLT, Int.reduceLE, Int.reduceEq, Int.reduceDiv, Int.reduceMod, Nat.reduceAdd, Nat.reduceMul, ↓reduceIte, u_eq, u_no, u_nk, u_ek, u_2, u_3, j_1, j_3, j_eq, j_no, j_nk, ltd, bnd]
    have FA : ∀ o k : Nat, ¬ o = 3 → ¬ ((p + 2 ≤ o ∧ o ≤ p + 4 ∧ k = (bK B).toNat) ∨ (o = p + 11 ∧ k = (bK B).toNat)) → (uI s10 (p + 4) (bK B).toNat v10).1 o k = s.1 o k := fun o k x y => by
      rw [f11 o k (by omega), p10.1 o k x, p9.1 o k x, f8 o k (by omega), p7.1 o k x, p6.1 o k x, f5 o k (by omega), p4.1 o k x, p3.1 o k x, p2 o k x (by omega), p1.1 o k x]
    have FL : (uI s10 (p + 4) (bK B).toNat v10).2 = s.2 := by
      show s10.2 = s.2
      rw [p10.2, p9.2]
      show s7.2 = s.2
      rw [p7.2, p6.2]
      show s4.2 = s.2
      rw [p4.2, p3.2, p2b, p1.2]
    have Fx : CBp p s (uI s10 (p + 4) (bK B).toNat v10) := ⟨fun o k x y => FA o k x (by omega), FL⟩
    rw [ef]
    -- the last two writes
    have last : ∀ (y : Int) (s12 : ST), (y = 0 ∨ y = 1) → f_X8_newKind_j114 p (Int32.ofInt (bK B)) (Int32.ofInt y) s12 = some (uI (uI s12 (p + 5) (bK B).toNat (Int32.ofInt y)) p 3 (Int32.ofInt (bK B + 1))) := by
      intro y s12 hy
      rcases hy with rfl | rfl
      · simp (disch := omega) only [f_X8_newKind_j114, f_X8_newKind_j128, hcl, g_kk, g_k1, g_n1, g_k2, g_n2, g_k3, g_n3, g_k4, g_n4, g_k5, g_n5, g_k7, g_n7, g_k8, g_n8, g_k9, g_n9, g_k6, g_r3, g_r4, g_r5, g_r6, g_r7, g_r10, g_q0, g_q1, g_q2, p_kk, p_k1, p_n1, p_k2, p_n2, p_k3, p_n3, p_k4, p_n4, p_k5, p_n5, p_k6, p_n6, p_k7, p_n7, p_k8, p_n8, p_k9, p_n9, p_k10, p_n10, p_k11, p_n11, p_k13, p_n13, p_k12, p_r2, p_r4, p_r5, p_r6, p_r7, p_r9, p_r10, p_r11, p_r13, p_r14, p_r15, p_r16, p_h0, n_i8, n_i16, n_0, n_31, n_add, n_sub, n_mul, n_neg, n_div, n_rem, n_le_t, n_le_f, n_lt_t, n_lt_f, n_eq_t, n_eq_f, n_cl, n_gd, n_gdt, n_nz, Int.reduceToNat, Int.reduceAdd, Int.reduceSub, Int.reduceMul, Int.reduceNeg, Int.reduceLT, Int.reduceLE, Int.reduceEq, Int.reduceDiv, Int.reduceMod, Nat.reduceAdd, Nat.reduceMul, ↓reduceIte, u_eq, u_no, u_nk, u_ek, u_2, u_3, j_1, j_3, j_eq, j_no, j_nk, ltd, bnd]
      · simp (disch := omega) only [f_X8_newKind_j114, f_X8_newKind_j128, hcl, g_kk, g_k1, g_n1, g_k2, g_n2, g_k3, g_n3, g_k4, g_n4, g_k5, g_n5, g_k7, g_n7, g_k8, g_n8, g_k9, g_n9, g_k6, g_r3, g_r4, g_r5, g_r6, g_r7, g_r10, g_q0, g_q1, g_q2, p_kk, p_k1, p_n1, p_k2, p_n2, p_k3, p_n3, p_k4, p_n4, p_k5, p_n5, p_k6, p_n6, p_k7, p_n7, p_k8, p_n8, p_k9, p_n9, p_k10, p_n10, p_k11, p_n11, p_k13, p_n13, p_k12, p_r2, p_r4, p_r5, p_r6, p_r7, p_r9, p_r10, p_r11, p_r13, p_r14, p_r15, p_r16, p_h0, n_i8, n_i16, n_0, n_31, n_add, n_sub, n_mul, n_neg, n_div, n_rem, n_le_t, n_le_f, n_lt_t, n_lt_f, n_eq_t, n_eq_f, n_cl, n_gd, n_gdt, n_nz, Int.reduceToNat, Int.reduceAdd, Int.reduceSub, Int.reduceMul, Int.reduceNeg, Int.reduceLT, Int.reduceLE, Int.reduceEq, Int.reduceDiv, Int.reduceMod, Nat.reduceAdd, Nat.reduceMul, ↓reduceIte, u_eq, u_no, u_nk, u_ek, u_2, u_3, j_1, j_3, j_eq, j_no, j_nk, ltd, bnd]
    have fl : ∀ (y : Int) (s12 : ST) (o k : Nat), ¬ (o = p + 5 ∧ k = (bK B).toNat) → ¬ (o = p ∧ k = 3) → (uI (uI s12 (p + 5) (bK B).toNat (Int32.ofInt y)) p 3 (Int32.ofInt (bK B + 1))).1 o k = s12.1 o k := fun y s12 o k x z => by (simp only [ua, ja, u_2, u_3, j_1, j_3]; (repeat' split) <;> first | rfl | (exfalso; omega))
    have bad : ∀ e : Int × Int, CD e.1 e.2 s10 → kndS T n (dupD B N) (nx T n c) = .error e → ∃ s', (f_X5_isWord (Int32.ofInt 8) (uI s10 (p + 4) (bK B).toNat v10)).bind (fun q23 => (if q23.1 = 0 then f_X8_newKind_j114 p (Int32.ofInt (bK B)) q23.1 q23.2 else (f_X5_step q23.2).bind (fun q25 => f_X8_newKind_j114 p (Int32.ofInt (bK B)) q23.1 q25))) = some s' ∧ CBp p s s' ∧ (bK B = 5 → CD 5 (frm T n c) s') ∧ (¬ bK B = 5 → RQ (kndS T n (dupD B N) (nx T n c)) (fun a => CDf (addK B a.1.2.1 a.1.2.2.1 a.1.2.2.2.1 a.1.2.2.2.2) G (adN N 0 (bK B) a.1.1) p s' ∧ CC T n a.2 s') (fun k q => CD k q s')) := by
      intro e hB he
      have hB' : CD e.1 e.2 (uI s10 (p + 4) (bK B).toNat v10) := CD_fr hB (fun k => f11 3 k (by omega))
      have hw := c_isWD hB' (Int32.ofInt 8)
      have hl := last 0 (uI s10 (p + 4) (bK B).toNat v10) (Or.inl rfl)
      refine ⟨_, ?_, Fx.tr ⟨fun o k x y => fl 0 _ o k (by omega) (by omega), rfl⟩, fun x => absurd x e5, fun _ => by rw [he]; exact CD_fr hB' (fun k => fl 0 _ 3 k (by omega) (by omega))⟩
      rw [← hl]
      simp (disch := omega) only [↓bb hw, n_i8, n_i16, n_0, n_31, n_add, n_sub, n_mul, n_neg, n_div, n_rem, n_le_t, n_le_f, n_lt_t, n_lt_f, n_eq_t, n_eq_f, n_cl, n_gd, n_gdt, n_nz, Int.reduceToNat, Int.reduceAdd, Int.reduceSub, Int.reduceMul, Int.reduceNeg, Int.reduceLT, Int.reduceLE, Int.reduceEq, Int.reduceDiv, Int.reduceMod, Nat.reduceAdd, Nat.reduceMul, ↓reduceIte]
    cases e1 : nmS T n (dupD B N) (nx T n c) with
    | error x => exact bad x (by simp only [cu, eb_ok, e1, eb_er] at r10; exact r10.2) (by unfold kndS; rw [e1]; rfl)
    | ok a1 =>
    cases e2 : tkW T n 5 a1.2 with
    | error x => exact bad x (by simp only [cu, eb_ok, e1, e2, eb_er] at r10; exact r10.2) (by unfold kndS; rw [e1, eb_ok, e2]; rfl)
    | ok c2 =>
    cases e3 : numS T n c2 1 4 with
    | error x => exact bad x (by simp only [cu, eb_ok, e1, e2, e3, eb_er] at r10; exact r10.2) (by unfold kndS; rw [e1, eb_ok, e2, eb_ok, e3]; rfl)
    | ok a3 =>
    cases e4 : tkW T n 6 a3.2 with
    | error x => exact bad x (by simp only [cu, eb_ok, e1, e2, e3, e4, eb_er] at r10; exact r10.2) (by unfold kndS; rw [e1, eb_ok, e2, eb_ok, e3, eb_ok, e4]; rfl)
    | ok c4 =>
    cases e6 : numS T n c4 1 4 with
    | error x => exact bad x (by simp only [cu, eb_ok, e1, e2, e3, e4, e6, eb_er] at r10; exact r10.2) (by unfold kndS; rw [e1, eb_ok, e2, eb_ok, e3, eb_ok, e4, eb_ok, e6]; rfl)
    | ok a5 =>
    cases e7 : tkW T n 7 a5.2 with
    | error x => exact bad x (by simp only [cu, eb_ok, e1, e2, e3, e4, e6, e7, eb_er] at r10; exact r10.2) (by unfold kndS; rw [e1, eb_ok, e2, eb_ok, e3, eb_ok, e4, eb_ok, e6, eb_ok, e7]; rfl)
    | ok c6 =>
    cases e8 : numS T n c6 0 99 with
    | error x => exact bad x (by simp only [cu, eb_ok, e1, e2, e3, e4, e6, e7, e8, eb_er] at r10; exact r10.2) (by unfold kndS; rw [e1, eb_ok, e2, eb_ok, e3, eb_ok, e4, eb_ok, e6, eb_ok, e7, eb_ok, e8]; rfl)
    | ok a7 =>
    simp only [cu, eb_ok, e1, e2, e3, e4, e6, e7, e8] at r2 r4 r7 r10
    have u2 : s2.1 (p + 11) (bK B).toNat = Int32.ofInt (b32 a1.1) := r2.2
    have u4 : v4 = Int32.ofInt a3.1 := r4.1
    have u7 : v7 = Int32.ofInt a5.1 := r7.1
    have u10 : v10 = Int32.ofInt a7.1 := r10.1
    have hC : CC T n a7.2 (uI s10 (p + 4) (bK B).toNat v10) := CC_fr r10.2 (fun o k x => f11 o k (by omega))
    have hw : f_X5_isWord (Int32.ofInt 8) (uI s10 (p + 4) (bK B).toNat v10) = _ := c_isW hC (k := 8) (by omega)
    have w2 : (uI s10 (p + 4) (bK B).toNat v10).1 (p + 2) (bK B).toNat = v4 := by rw [f11 _ _ (by omega), p10.1 _ _ (by omega), p9.1 _ _ (by omega), f8 _ _ (by omega), p7.1 _ _ (by omega), p6.1 _ _ (by omega), u_eq]
    have w3 : (uI s10 (p + 4) (bK B).toNat v10).1 (p + 3) (bK B).toNat = v7 := by rw [f11 _ _ (by omega), p10.1 _ _ (by omega), p9.1 _ _ (by omega), u_eq]
    have w11 : (uI s10 (p + 4) (bK B).toNat v10).1 (p + 11) (bK B).toNat = Int32.ofInt (b32 a1.1) := by rw [f11 _ _ (by omega), p10.1 _ _ (by omega), p9.1 _ _ (by omega), f8 _ _ (by omega), p7.1 _ _ (by omega), p6.1 _ _ (by omega), f5 _ _ (by omega), p4.1 _ _ (by omega), p3.1 _ _ (by omega)]; exact u2
    have fin : ∀ (y : Int) (c9 : Cur) (s12 : ST), (y = 0 ∨ y = 1) → CC T n c9 s12 → CFr (uI s10 (p + 4) (bK B).toNat v10) s12 → kndS T n (dupD B N) (nx T n c) = .ok ((a1.1, a3.1, a5.1, a7.1, y), c9) → (f_X5_isWord (Int32.ofInt 8) (uI s10 (p + 4) (bK B).toNat v10)).bind (fun q23 => (if q23.1 = 0 then f_X8_newKind_j114 p (Int32.ofInt (bK B)) q23.1 q23.2 else (f_X5_step q23.2).bind (fun q25 => f_X8_newKind_j114 p (Int32.ofInt (bK B)) q23.1 q25))) = f_X8_newKind_j114 p (Int32.ofInt (bK B)) (Int32.ofInt y) s12 → ∃ s', (f_X5_isWord (Int32.ofInt 8) (uI s10 (p + 4) (bK B).toNat v10)).bind (fun q23 => (if q23.1 = 0 then f_X8_newKind_j114 p (Int32.ofInt (bK B)) q23.1 q23.2 else (f_X5_step q23.2).bind (fun q25 => f_X8_newKind_j114 p (Int32.ofInt (bK B)) q23.1 q25))) = some s' ∧ CBp p s s' ∧ (bK B = 5 → CD 5 (frm T n c) s') ∧ (¬ bK B = 5 → RQ (kndS T n (dupD B N) (nx T n c)) (fun a => CDf (addK B a.1.2.1 a.1.2.2.1 a.1.2.2.2.1 a.1.2.2.2.2) G (adN N 0 (bK B) a.1.1) p s' ∧ CC T n a.2 s') (fun k q => CD k q s')) := by
      intro y c9 s12 hy hc9 hf12 hk hj
      rw [hj, hk, last y s12 hy]
      refine ⟨_, rfl, (Fx.tr (hf12.bp p)).tr ⟨fun o k x z => fl y s12 o k (by omega) (by omega), rfl⟩, fun x => absurd x e5, fun _ => RQ.ok ⟨CDf_K hV hD (by omega) (fun a k x1 x2 x3 => ?_) ?_ ?_ ?_ ?_ ?_ ?_, CC_fr hc9 (fun o k x => fl y s12 o k (by omega) (by omega))⟩⟩
      · rw [fl y s12 a k (by omega) (by omega), hf12.1 a k (by omega)]
        exact FA a k (by omega) (by omega)
      · rw [u_eq]
      · rw [fl y s12 _ _ (by omega) (by omega), hf12.1 _ _ (by omega), w2, u4]
      · rw [fl y s12 _ _ (by omega) (by omega), hf12.1 _ _ (by omega), w3, u7]
      · rw [fl y s12 _ _ (by omega) (by omega), hf12.1 _ _ (by omega), u_eq, u10]
      · rw [u_no (by omega), u_eq]
      · rw [fl y s12 _ _ (by omega) (by omega), hf12.1 _ _ (by omega), w11]
    cases e9 : isWL T n a7.2 (WDl 8) with
    | true =>
      rw [e9] at hw
      have hw : f_X5_isWord (Int32.ofInt 8) (uI s10 (p + 4) (bK B).toNat v10) = some (Int32.ofInt 1, uI s10 (p + 4) (bK B).toNat v10) := hw
      obtain ⟨s12, t1, t2, t3⟩ := c_step hC
      rw [nx_W (isWL_W e9)] at t2
      exact fin 1 (nxW T n a7.2) s12 (Or.inr rfl) t2 t3 (by unfold kndS; rw [e1, eb_ok, e2, eb_ok, e3, eb_ok, e4, eb_ok, e6, eb_ok, e7, eb_ok, e8, eb_ok, e9]; rfl) (by simp (disch := omega) only [↓bb hw, ↓bb t1, n_i8, n_i16, n_0, n_31, n_add, n_sub, n_mul, n_neg, n_div, n_rem, n_le_t, n_le_f, n_lt_t, n_lt_f, n_eq_t, n_eq_f, n_cl, n_gd, n_gdt, n_nz, Int.reduceToNat, Int.reduceAdd, Int.reduceSub, Int.reduceMul, Int.reduceNeg, Int.reduceLT, Int.reduceLE, Int.reduceEq, Int.reduceDiv, Int.reduceMod, Nat.reduceAdd, Nat.reduceMul, ↓reduceIte])
    | false =>
      rw [e9] at hw
      have hw : f_X5_isWord (Int32.ofInt 8) (uI s10 (p + 4) (bK B).toNat v10) = some (Int32.ofInt 0, uI s10 (p + 4) (bK B).toNat v10) := hw
      exact fin 0 a7.2 _ (Or.inl rfl) hC (CFr.rf _) (by unfold kndS; rw [e1, eb_ok, e2, eb_ok, e3, eb_ok, e4, eb_ok, e6, eb_ok, e7, eb_ok, e8, eb_ok, e9]; rfl) (by simp (disch := omega) only [↓bb hw, n_i8, n_i16, n_0, n_31, n_add, n_sub, n_mul, n_neg, n_div, n_rem, n_le_t, n_le_f, n_lt_t, n_lt_f, n_eq_t, n_eq_f, n_cl, n_gd, n_gdt, n_nz, Int.reduceToNat, Int.reduceAdd, Int.reduceSub, Int.reduceMul, Int.reduceNeg, Int.reduceLT, Int.reduceLE, Int.reduceEq, Int.reduceDiv, Int.reduceMod, Nat.reduceAdd, Nat.reduceMul, ↓reduceIte])
