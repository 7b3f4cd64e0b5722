/-! L3: the reference reads kinds, men, fields -/
variable {T : Int → Int} {n : Int} {B : Brd} {G : Gam} {N : Int → Int → List Int}
/-- what telling a board may change in the reference -/
def LO (o k : Nat) : Prop := (o = 65 ∧ (k = 2 ∨ k = 4 ∨ k = 5 ∨ k = 6 ∨ k = 10 ∨ k = 44 ∨ (56 ≤ k ∧ k ≤ 61 ∧ ¬ k = 58 ∧ ¬ k = 57) ∨ (111 ≤ k ∧ k ≤ 115))) ∨ o = 146 ∨ o = 147 ∨ (o = 101 ∧ k < 3) ∨ (o = 103 ∧ k < 4) ∨ (o = 104 ∧ k < 20) ∨ (o = 105 ∧ k < 16) ∨ o = 106 ∨ (o = 107 ∧ k < 18) ∨ (o = 108 ∧ k < 2) ∨ (o = 109 ∧ k = 0) ∨ (o = 110 ∧ k = 0) ∨ (o = 111 ∧ k < 1600)
def BFr (s s' : ST) : Prop := (∀ o k : Nat, ¬ LO o k → s'.1 o k = s.1 o k) ∧ (∀ o k : Nat, ¬ (o = 102 ∧ k < 24) → s'.2.1 o k = s.2.1 o k) ∧ s'.2.2 = s.2.2
theorem BFr.rf (s : ST) : BFr s s := ⟨fun _ _ _ => rfl, fun _ _ _ => rfl, rfl⟩
theorem BFr.tr {s t u : ST} (h1 : BFr s t) (h2 : BFr t u) : BFr s u := ⟨fun o k x => (h2.1 o k x).trans (h1.1 o k x), fun o k x => (h2.2.1 o k x).trans (h1.2.1 o k x), h2.2.2.trans h1.2.2⟩
theorem RPf.b {s t : ST} (h : RPf s t) : BFr s t := ⟨fun o k x => h.1 o k (by unfold LO at x; omega), fun o k _ => by rw [h.2], by rw [h.2]⟩
theorem RQf.b {s t : ST} (h : RQf s t) : BFr s t := ⟨fun o k x => h.1 o k (by unfold LO at x; omega) (by unfold LO at x; omega) (by unfold LO at x; omega), fun o k _ => by rw [h.2], by rw [h.2]⟩
theorem RG_b {r : EX Cur} {s : ST} {e : Int × Int} (h : RG T n r s) (hr : r = .error e) : RB e.1 e.2 s := by subst hr; exact h
theorem RG_o {r : EX Cur} {s : ST} {c : Cur} (h : RG T n r s) (hr : r = .ok c) : RC T n c s ∧ WDS s := by subst hr; exact h
theorem RG_cu {r : EX (Int × Cur)} {s : ST} {v : Int32} {Q : Int × Cur → Prop} (h : RQ r (fun a => v = Int32.ofInt a.1 ∧ (RC T n a.2 s ∧ WDS s) ∧ Q a) (fun k p => RB k p s)) : RG T n (cu r) s := by
  cases r with
  | error e => exact h
  | ok a => exact h.2.1
theorem RG_cun {r : EX (List Int × Cur)} {s : ST} {v : Int64} (h : RQ r (fun a => v = Int64.ofInt (b27 a.1) ∧ NV a.1 ∧ RC T n a.2 s ∧ WDS s) (fun k p => RB k p s)) : RG T n (cu r) s := by
  cases r with
  | error e => exact h
  | ok a => exact h.2.2
theorem m_takesB {k p : Int} {s : ST} (h : RB k p s) (o : Nat) : f_X10_takes o s = some (Int32.ofInt 0, s) := by
  have e5 : (s.1 65 5 = Int32.ofInt 0) = False := eq_false h.ne
  have e1 : f_X10_isHere o s = some (Int32.ofInt 0, s) := by
    unfold f_X10_isHere
    rw [if_neg h.ne]
  simp (disch := omega) only [f_X10_takes, ↓bb e1, n_i8, n_i16, n_0, n_31, n_add, n_sub, n_mul, n_neg, n_div, n_rem, n_le_t, n_le_f, n_lt_t, n_lt_f, n_eq_t, n_eq_f, n_cl, n_gd, n_gdt, n_nz, Int.reduceToNat, Int.reduceAdd, Int.reduceSub, Int.reduceMul, Int.reduceNeg, Int.reduceLT, Int.reduceLE, Int.reduceEq, Int.reduceDiv, Int.reduceMod, Nat.reduceAdd, Nat.reduceMul, ↓reduceIte]
def sB (B : Nat → Int → Int) (i : Nat) (j v : Int) : Nat → Int → Int := fun a b => if a = i ∧ b = j then v else B a b
theorem sB_e {B : Nat → Int → Int} {i : Nat} {j v : Int} {a : Nat} {b : Int} (h : a = i) (h2 : b = j) : sB B i j v a b = v := if_pos ⟨h, h2⟩
theorem sB_i {B : Nat → Int → Int} {i : Nat} {j v : Int} {a : Nat} {b : Int} (h : ¬ a = i) : sB B i j v a b = B a b := if_neg (fun x => h x.1)
theorem sB_j {B : Nat → Int → Int} {i : Nat} {j v : Int} {a : Nat} {b : Int} (h : ¬ b = j) : sB B i j v a b = B a b := if_neg (fun x => h x.2)
def addK (B : Brd) (w r o c : Int) : Brd := sB (sB (sB (sB (sB B 2 (bK B) w) 3 (bK B) r) 4 (bK B) o) 5 (bK B) c) 0 2 (bK B + 1)
def addM (B : Brd) (k t : Int) : Brd := sB (sB (sB B 6 (bM B) k) 7 (bM B) t) 0 3 (bM B + 1)
def addF (B : Brd) (x y : Int) : Brd := sB (sB (sB B 8 (bF B) x) 9 (bF B) y) 0 4 (bF B + 1)
def adN (N : Int → Int → List Int) (k w : Int) (nm : List Int) : Int → Int → List Int := fun a b => if a = k ∧ b = w then nm else N a b
theorem addK_o {w r o c : Int} {i : Nat} {j : Int} (h : ¬ (i = 0 ∧ j = 2)) (h2 : ¬ (2 ≤ i ∧ i ≤ 5 ∧ j = bK B)) : addK B w r o c i j = B i j := by
  unfold addK sB
  (repeat' split) <;> first | rfl | (exfalso; omega)
theorem addM_o {k t : Int} {i : Nat} {j : Int} (h : ¬ (i = 0 ∧ j = 3)) (h2 : ¬ (6 ≤ i ∧ i ≤ 7 ∧ j = bM B)) : addM B k t i j = B i j := by
  unfold addM sB
  (repeat' split) <;> first | rfl | (exfalso; omega)
theorem addF_o {x y : Int} {i : Nat} {j : Int} (h : ¬ (i = 0 ∧ j = 4)) (h2 : ¬ (8 ≤ i ∧ i ≤ 9 ∧ j = bF B)) : addF B x y i j = B i j := by
  unfold addF sB
  (repeat' split) <;> first | rfl | (exfalso; omega)
theorem addK_n {w r o c : Int} : bK (addK B w r o c) = bK B + 1 ∧ wy (addK B w r o c) (bK B) = w ∧ rch (addK B w r o c) (bK B) = r ∧ wo (addK B w r o c) (bK B) = o ∧ cr (addK B w r o c) (bK B) = c := by
  refine ⟨?_, ?_, ?_, ?_, ?_⟩
  · show addK B w r o c 0 2 = bK B + 1
    unfold addK
    rw [sB_e rfl rfl]
  · show addK B w r o c 2 (bK B) = w
    unfold addK
    rw [sB_i (by omega), sB_i (by omega), sB_i (by omega), sB_i (by omega), sB_e rfl rfl]
  · show addK B w r o c 3 (bK B) = r
    unfold addK
    rw [sB_i (by omega), sB_i (by omega), sB_i (by omega), sB_e rfl rfl]
  · show addK B w r o c 4 (bK B) = o
    unfold addK
    rw [sB_i (by omega), sB_i (by omega), sB_e rfl rfl]
  · show addK B w r o c 5 (bK B) = c
    unfold addK
    rw [sB_i (by omega), sB_e rfl rfl]
theorem addM_n {k t : Int} : bM (addM B k t) = bM B + 1 ∧ kd (addM B k t) (bM B) = k ∧ sd (addM B k t) (bM B) = t := by
  refine ⟨?_, ?_, ?_⟩
  · show addM B k t 0 3 = bM B + 1
    unfold addM
    rw [sB_e rfl rfl]
  · show addM B k t 6 (bM B) = k
    unfold addM
    rw [sB_i (by omega), sB_i (by omega), sB_e rfl rfl]
  · show addM B k t 7 (bM B) = t
    unfold addM
    rw [sB_i (by omega), sB_e rfl rfl]
theorem addF_n {x y : Int} : bF (addF B x y) = bF B + 1 ∧ fx (addF B x y) (bF B) = x ∧ fy (addF B x y) (bF B) = y := by
  refine ⟨?_, ?_, ?_⟩
  · show addF B x y 0 4 = bF B + 1
    unfold addF
    rw [sB_e rfl rfl]
  · show addF B x y 8 (bF B) = x
    unfold addF
    rw [sB_i (by omega), sB_i (by omega), sB_e rfl rfl]
  · show addF B x y 9 (bF B) = y
    unfold addF
    rw [sB_i (by omega), sB_e rfl rfl]
/-- names: one more of sort k -/
theorem RDn_a {B' : Brd} {s s' : ST} (h : RDn B N s) {k : Int} (k0 : 0 ≤ k) (k1 : k ≤ 2) (hc : ∀ j : Int, 0 ≤ j → j ≤ 2 → cnt B' j = if j = k then cnt B j + 1 else cnt B j) {nm : List Int} (hn : NV nm) (hb : ∀ j : Int, 0 ≤ cnt B j ∧ cnt B j ≤ 8) (hb8 : cnt B k < 8) (h1 : s'.2.1 102 (8 * k + cnt B k).toNat = Int64.ofInt (b27 nm)) (h2 : ∀ j : Nat, ¬ j = (8 * k + cnt B k).toNat → s'.2.1 102 j = s.2.1 102 j) : RDn B' (adN N k (cnt B k) nm) s' := by
  intro j w j0 j1 w0 w1
  rw [hc j j0 j1] at w1
  have hbj := hb j
  have hbk := hb k
  unfold adN
  by_cases e : j = k ∧ w = cnt B k
  · obtain ⟨rfl, rfl⟩ := e
    rw [if_pos ⟨rfl, rfl⟩]
    exact ⟨h1, hn⟩
  · rw [if_neg e]
    have hw : w < cnt B j := by
      split at w1
      · rename_i x
        subst x
        have : ¬ w = cnt B j := fun y => e ⟨rfl, y⟩
        omega
      · exact w1
    obtain ⟨a, b⟩ := h j w j0 j1 w0 hw
    refine ⟨(h2 _ ?_).trans a, b⟩
    by_cases x : j = k
    · subst x; omega
    · omega
theorem RD_K {w r o c : Int} {nm : List Int} {s s' : ST} (hV : DV B G N) (h : RD B G N s) (hK : bK B < 5) (hn : NV nm) (hf : ∀ a k : Nat, (101 ≤ a ∧ a ≤ 111) ∨ (a = 65 ∧ k = 56) → ¬ (a = 101 ∧ k = 0) → ¬ (a = 104 ∧ 4 * bK B ≤ (k : Int) ∧ (k : Int) < 20) → s'.1 a k = s.1 a k) (c1 : s'.1 101 0 = Int32.ofInt (bK B + 1)) (c2 : s'.1 104 (4 * bK B).toNat = Int32.ofInt w) (c3 : s'.1 104 (4 * bK B + 1).toNat = Int32.ofInt r) (c4 : s'.1 104 (4 * bK B + 2).toNat = Int32.ofInt o) (c5 : s'.1 104 (4 * bK B + 3).toNat = Int32.ofInt c) (h1 : s'.2.1 102 (8 * 0 + bK B).toNat = Int64.ofInt (b27 nm)) (h2 : ∀ j : Nat, ¬ j = (8 * 0 + bK B).toNat → s'.2.1 102 j = s.2.1 102 j) : RD (addK B w r o c) G (adN N 0 (bK B) nm) s' := by
  have hVb := hV.1.2.1
  have hcb := cnt_b hV
  obtain ⟨n1, n2, n3, n4, n5⟩ := addK_n (B := B) (w := w) (r := r) (o := o) (c := c)
  have z : ∀ j : Int, ¬ j = 2 → addK B w r o c 0 j = B 0 j := fun j hj => addK_o (by omega) (by omega)
  have zM : bM (addK B w r o c) = bM B := z 3 (by omega)
  have zF : bF (addK B w r o c) = bF B := z 4 (by omega)
  obtain ⟨⟨⟨a1, a2, a3⟩, ⟨a4, a5, a6, a7⟩, a8, a9⟩, b1, b2, b3, b4, b5⟩ := h
  refine ⟨⟨⟨by rw [n1]; exact c1, by rw [zM]; exact (hf _ _ (by omega) (by omega) (by omega)).trans a2, by rw [zF]; exact (hf _ _ (by omega) (by omega) (by omega)).trans a3⟩, ⟨(hf _ _ (by omega) (by omega) (by omega)).trans (by rw [a4, show bW (addK B w r o c) = bW B from z 0 (by omega)]), (hf _ _ (by omega) (by omega) (by omega)).trans (by rw [a5, show bH (addK B w r o c) = bH B from z 1 (by omega)]), (hf _ _ (by omega) (by omega) (by omega)).trans (by rw [a6, show bD (addK B w r o c) 0 = bD B 0 from addK_o (by omega) (by omega)]), (hf _ _ (by omega) (by omega) (by omega)).trans (by rw [a7, show bD (addK B w r o c) 1 = bD B 1 from addK_o (by omega) (by omega)])⟩, (hf _ _ (by omega) (by omega) (by omega)).trans (by rw [a8, show bGr (addK B w r o c) = bGr B from z 5 (by omega)]), (hf _ _ (by omega) (by omega) (by omega)).trans (by rw [a9, show bSl (addK B w r o c) = bSl B from z 6 (by omega)])⟩, fun k k0 k1 => ?_, fun k k0 k1 => ?_, fun k k0 k1 => ?_, ?_, ?_⟩
  · rw [n1] at k1
    by_cases e : k = bK B
    · subst e
      rw [n2, n3, n4, n5]
      exact ⟨c2, c3, c4, c5⟩
    · obtain ⟨d1, d2, d3, d4⟩ := b1 k k0 (by omega)
      rw [show wy (addK B w r o c) k = wy B k from addK_o (by omega) (by omega), show rch (addK B w r o c) k = rch B k from addK_o (by omega) (by omega), show wo (addK B w r o c) k = wo B k from addK_o (by omega) (by omega), show cr (addK B w r o c) k = cr B k from addK_o (by omega) (by omega)]
      exact ⟨(hf _ _ (by omega) (by omega) (by omega)).trans d1, (hf _ _ (by omega) (by omega) (by omega)).trans d2, (hf _ _ (by omega) (by omega) (by omega)).trans d3, (hf _ _ (by omega) (by omega) (by omega)).trans d4⟩
  · rw [zM] at k1
    obtain ⟨d1, d2, d3, d4⟩ := b2 k k0 k1
    rw [show kd (addK B w r o c) k = kd B k from addK_o (by omega) (by omega), show sd (addK B w r o c) k = sd B k from addK_o (by omega) (by omega)]
    exact ⟨(hf _ _ (by omega) (by omega) (by omega)).trans d1, (hf _ _ (by omega) (by omega) (by omega)).trans d2, (hf _ _ (by omega) (by omega) (by omega)).trans d3, (hf _ _ (by omega) (by omega) (by omega)).trans d4⟩
  · rw [zF] at k1
    obtain ⟨d1, d2, d3⟩ := b3 k k0 k1
    rw [show fx (addK B w r o c) k = fx B k from addK_o (by omega) (by omega), show fy (addK B w r o c) k = fy B k from addK_o (by omega) (by omega)]
    exact ⟨(hf _ _ (by omega) (by omega) (by omega)).trans d1, (hf _ _ (by omega) (by omega) (by omega)).trans d2, (hf _ _ (by omega) (by omega) (by omega)).trans d3⟩
  · have zH : bHm (addK B w r o c) = bHm B := z 7 (by omega)
    unfold RDh
    rw [zH]
    rcases b4 with ⟨d1, d2, d3⟩ | ⟨d1, d2, d3, d4, d5, d6⟩
    · exact Or.inl ⟨d1, (hf _ _ (by omega) (by omega) (by omega)).trans d2, (hf _ _ (by omega) (by omega) (by omega)).trans d3⟩
    · exact Or.inr ⟨d1, d2, (hf _ _ (by omega) (by omega) (by omega)).trans d3, (hf _ _ (by omega) (by omega) (by omega)).trans d4, (hf _ _ (by omega) (by omega) (by omega)).trans d5, fun i i0 i1 => (hf _ _ (by omega) (by omega) (by omega)).trans ((d6 i i0 i1).trans (by rw [show hcd (addK B w r o c) i = hcd B i from addK_o (by omega) (by omega)]))⟩
  · have e0 : cnt B 0 = bK B := rfl
    have := RDn_a (B' := addK B w r o c) (k := 0) b5 (by omega) (by omega) (fun j j0 j1 => by
      have : j = 0 ∨ j = 1 ∨ j = 2 := by omega
      rcases this with rfl | rfl | rfl
      · exact n1
      · exact zM
      · exact zF) hn hcb (by rw [e0]; omega) h1 h2
    exact this
theorem m_full {s : ST} {k v room bg : Int} (h5 : s.1 65 5 = Int32.ofInt 0) (k0 : 0 ≤ k) (k1 : k ≤ 2) (hk : s.1 101 k.toNat = Int32.ofInt v) (v0 : 0 ≤ v) (v1 : v ≤ 100) (r0 : 0 ≤ room) (r1 : room ≤ 100) : (¬ v = room → f_X10_isFull (Int32.ofInt k) (Int32.ofInt room) (Int32.ofInt bg) s = some (Int32.ofInt 0, s)) ∧ (v = room → ∃ s', f_X10_isFull (Int32.ofInt k) (Int32.ofInt room) (Int32.ofInt bg) s = some (Int32.ofInt 1, s') ∧ RB 5 bg s' ∧ RPf s s') := by
  have hcl : (Int32.ofInt k).toNatClampNeg = k.toNat := n_cl (by omega) (by omega)
  constructor
  · intro e
    simp (disch := omega) only [f_X10_isFull, f_X10_isFull_j23, h5, hcl, hk, n_i8, n_i16, n_0, n_31, n_add, n_sub, n_mul, n_neg, n_div, n_rem, n_le_t, n_le_f, n_lt_t, n_lt_f, n_eq_t, n_eq_f, n_cl, n_gd, n_gdt, n_nz, Int.reduceToNat, Int.reduceAdd, Int.reduceSub, Int.reduceMul, Int.reduceNeg, Int.reduceLT, Int.reduceLE, Int.reduceEq, Int.reduceDiv, Int.reduceMod, Nat.reduceAdd, Nat.reduceMul, ↓reduceIte]
  · intro e
    obtain ⟨s', q1, q2, q3⟩ := m_fail (k := 5) (p := bg) h5 (by omega) (by omega)
    refine ⟨s', ?_, q2, q3⟩
    have e5 : (s'.1 65 5 = Int32.ofInt 0) = False := eq_false q2.ne
    simp (disch := omega) only [f_X10_isFull, f_X10_isFull_j23, h5, hcl, hk, ↓bb q1, e5, n_i8, n_i16, n_0, n_31, n_add, n_sub, n_mul, n_neg, n_div, n_rem, n_le_t, n_le_f, n_lt_t, n_lt_f, n_eq_t, n_eq_f, n_cl, n_gd, n_gdt, n_nz, Int.reduceToNat, Int.reduceAdd, Int.reduceSub, Int.reduceMul, Int.reduceNeg, Int.reduceLT, Int.reduceLE, Int.reduceEq, Int.reduceDiv, Int.reduceMod, Nat.reduceAdd, Nat.reduceMul, ↓reduceIte]
theorem j64_1 (s : ST) (o k : Nat) (x : Int64) : (uJ s o k x).1 = s.1 := rfl
/-- one more name -/
theorem m_adds {s : ST} {k v : Int} {x : Int64} (k0 : 0 ≤ k) (k1 : k ≤ 2) (hk : s.1 101 k.toNat = Int32.ofInt v) (v0 : 0 ≤ v) (v1 : v < 8) : f_X10_adds (Int32.ofInt k) x s = some (Int32.ofInt v, uI (uJ s 102 (8 * k + v).toNat x) 101 k.toNat (Int32.ofInt (v + 1))) := by
  have hcl : (Int32.ofInt k).toNatClampNeg = k.toNat := n_cl (by omega) (by omega)
  have e1 : Int32.ofInt (v + 1) - Int32.ofInt 1 = Int32.ofInt v := by rw [n_sub, show v + 1 - 1 = v by omega]
  simp (disch := omega) only [f_X10_adds, hcl, hk, e1, j64_1, n_i8, n_i16, n_0, n_31, n_add, n_sub, n_mul, n_neg, n_div, n_rem, n_le_t, n_le_f, n_lt_t, n_lt_f, n_eq_t, n_eq_f, n_cl, n_gd, n_gdt, n_nz, Int.reduceToNat, Int.reduceAdd, Int.reduceSub, Int.reduceMul, Int.reduceNeg, Int.reduceLT, Int.reduceLE, Int.reduceEq, Int.reduceDiv, Int.reduceMod, Nat.reduceAdd, Nat.reduceMul, ↓reduceIte, u_eq, ltd]
theorem m_kndT {c : Cur} {s : ST} {bg : Int} (hV : DV B G N) (hD : RD B G N s) (hc : RC T n c s) (hw : WDS s) : ∃ s', f_X10_kindTold (Int32.ofInt bg) s = some s' ∧ BFr s s' ∧ (bK B = 5 → RB 5 bg s') ∧ (¬ bK B = 5 → RQ (kndS T n (dupD B N) c) (fun a => RD (addK B a.1.2.1 a.1.2.2.1 a.1.2.2.2.1 a.1.2.2.2.2) G (adN N 0 (bK B) a.1.1) s' ∧ NV a.1.1 ∧ RC T n a.2 s' ∧ WDS s') (fun k p => RB k p s')) := by
  have h5 := hc.b.1
  have hVb := hV.1.2.1
  have hcn := hc.b.2.1
  obtain ⟨fu1, fu2⟩ := m_full (room := 5) (bg := bg) (k := 0) h5 (by omega) (by omega) hD.1.1.1 hVb.1 (by omega) (by omega) (by omega)
  by_cases e5 : bK B = 5
  · obtain ⟨s', q1, q2, q3⟩ := fu2 e5
    refine ⟨s', ?_, q3.b, fun _ => q2, fun x => absurd e5 x⟩
    simp (disch := omega) only [f_X10_kindTold, ↓bb q1, n_i8, n_i16, n_0, n_31, n_add, n_sub, n_mul, n_neg, n_div, n_rem, n_le_t, n_le_f, n_lt_t, n_lt_f, n_eq_t, n_eq_f, n_cl, n_gd, n_gdt, n_nz, Int.reduceToNat, Int.reduceAdd, Int.reduceSub, Int.reduceMul, Int.reduceNeg, Int.reduceLT, Int.reduceLE, Int.reduceEq, Int.reduceDiv, Int.reduceMod, Nat.reduceAdd, Nat.reduceMul, ↓reduceIte]
  · have fu1 := fu1 e5
    obtain ⟨v1, s1, q1, p1, r1⟩ := m_newName hV hD hc hw
    obtain ⟨s2, q2, p2, r2⟩ := g_asks (RG_cun r1) (o := 73) (by unfold wce; omega)
    obtain ⟨v3, s3, q3, p3, r3⟩ := g_num r2 (lo := 1) (hi := 4) (by omega) (by omega) (by omega) (by omega)
    obtain ⟨s4, q4, p4, r4⟩ := g_asks (RG_cu r3) (o := 74) (by unfold wce; omega)
    obtain ⟨v5, s5, q5, p5, r5⟩ := g_num r4 (lo := 1) (hi := 4) (by omega) (by omega) (by omega) (by omega)
    obtain ⟨s6, q6, p6, r6⟩ := g_asks (RG_cu r5) (o := 75) (by unfold wce; omega)
    obtain ⟨v7, s7, q7, p7, r7⟩ := g_num r6 (lo := 0) (hi := 99) (by omega) (by omega) (by omega) (by omega)
    have P : RPf s s7 := (((((p1.tr p2).tr p3).tr p4).tr p5).tr p6).tr p7
    have ef : f_X10_kindTold (Int32.ofInt bg) s = (f_X10_takes 76 s7).bind (fun q10 => (if q10.1 = 0 then f_X10_kindTold_j81 v1 v3 v5 v7 (Int32.ofInt 0) q10.2 else f_X10_kindTold_j81 v1 v3 v5 v7 (Int32.ofInt 1) q10.2)) := by
      simp (disch := omega) only [f_X10_kindTold, ↓bb fu1, ↓bb q1, ↓bb q2, ↓bb q3, ↓bb q4, ↓bb q5, ↓bb q6, ↓bb q7, n_i8, n_i16, n_0, n_31, n_add, n_sub, n_mul, n_neg, n_div, n_rem, n_le_t, n_le_f, n_lt_t, n_lt_f, n_eq_t, n_eq_f, n_cl, n_gd, n_gdt, n_nz, Int.reduceToNat, Int.reduceAdd, Int.reduceSub, Int.reduceMul, Int.reduceNeg, Int.reduceLT, Int.reduceLE, Int.reduceEq, Int.reduceDiv, Int.reduceMod, Nat.reduceAdd, Nat.reduceMul, ↓reduceIte]
    rw [ef]
    have bad : ∀ e : Int × Int, RB e.1 e.2 s7 → kndS T n (dupD B N) c = .error e → ∃ s', (f_X10_takes 76 s7).bind (fun q10 => (if q10.1 = 0 then f_X10_kindTold_j81 v1 v3 v5 v7 (Int32.ofInt 0) q10.2 else f_X10_kindTold_j81 v1 v3 v5 v7 (Int32.ofInt 1) q10.2)) = some s' ∧ BFr s s' ∧ (bK B = 5 → RB 5 bg s') ∧ (¬ bK B = 5 → RQ (kndS T n (dupD B N) c) (fun a => RD (addK B a.1.2.1 a.1.2.2.1 a.1.2.2.2.1 a.1.2.2.2.2) G (adN N 0 (bK B) a.1.1) s' ∧ NV a.1.1 ∧ RC T n a.2 s' ∧ WDS s') (fun k p => RB k p s')) := by
      intro e hB he
      refine ⟨s7, ?_, P.b, fun x => absurd x e5, fun _ => by rw [he]; exact hB⟩
      have e5 : (s7.1 65 5 = Int32.ofInt 0) = False := eq_false hB.ne
      have et := m_takesB hB 76
      simp (disch := omega) only [f_X10_kindTold_j81, ↓bb et, e5, n_i8, n_i16, n_0, n_31, n_add, n_sub, n_mul, n_neg, n_div, n_rem, n_le_t, n_le_f, n_lt_t, n_lt_f, n_eq_t, n_eq_f, n_cl, n_gd, n_gdt, n_nz, Int.reduceToNat, Int.reduceAdd, Int.reduceSub, Int.reduceMul, Int.reduceNeg, Int.reduceLT, Int.reduceLE, Int.reduceEq, Int.reduceDiv, Int.reduceMod, Nat.reduceAdd, Nat.reduceMul, ↓reduceIte]
    cases e1 : nmS T n (dupD B N) c with
    | error x => exact bad x (by simp only [e1, cu, eb_er] at r7; exact r7) (by unfold kndS; rw [e1]; rfl)
    | ok a1 =>
    cases e2 : tkW T n 5 a1.2 with
    | error x => exact bad x (by simp only [e1, cu, eb_ok, show wno 73 = 5 from rfl, e2, eb_er] at r7; exact r7) (by unfold kndS; rw [e1, eb_ok, e2]; rfl)
    | ok c2 =>
    cases e3 : numS T n c2 1 4 with
    | error x => exact bad x (by simp only [e1, cu, eb_ok, show wno 73 = 5 from rfl, e2, e3, eb_er] at r7; exact r7) (by unfold kndS; rw [e1, eb_ok, e2, eb_ok, e3]; rfl)
    | ok a3 =>
    cases e4 : tkW T n 6 a3.2 with
    | error x => exact bad x (by simp only [e1, cu, eb_ok, show wno 73 = 5 from rfl, show wno 74 = 6 from rfl, e2, e3, e4, eb_er] at r7; exact r7) (by unfold kndS; rw [e1, eb_ok, e2, eb_ok, e3, eb_ok, e4]; rfl)
    | ok c4 =>
    cases e6 : numS T n c4 1 4 with
    | error x => exact bad x (by simp only [e1, cu, eb_ok, show wno 73 = 5 from rfl, show wno 74 = 6 from rfl, e2, e3, e4, e6, eb_er] at r7; exact r7) (by unfold kndS; rw [e1, eb_ok, e2, eb_ok, e3, eb_ok, e4, eb_ok, e6]; rfl)
    | ok a5 =>
    cases e7 : tkW T n 7 a5.2 with
    | error x => exact bad x (by simp only [e1, cu, eb_ok, show wno 73 = 5 from rfl, show wno 74 = 6 from rfl, show wno 75 = 7 from rfl, e2, e3, e4, e6, e7, eb_er] at r7; exact r7) (by unfold kndS; rw [e1, eb_ok, e2, eb_ok, e3, eb_ok, e4, eb_ok, e6, eb_ok, e7]; rfl)
    | ok c6 =>
    cases e8 : numS T n c6 0 99 with
    | error x => exact bad x (by simp only [e1, cu, eb_ok, show wno 73 = 5 from rfl, show wno 74 = 6 from rfl, show wno 75 = 7 from rfl, e2, e3, e4, e6, e7, e8, eb_er] at r7; exact r7) (by unfold kndS; rw [e1, eb_ok, e2, eb_ok, e3, eb_ok, e4, eb_ok, e6, eb_ok, e7, eb_ok, e8]; rfl)
    | ok a7 =>
    simp only [e1, cu, eb_ok, show wno 73 = 5 from rfl, show wno 74 = 6 from rfl, show wno 75 = 7 from rfl, e2, e3, e4, e6, e7, e8] at r1 r3 r5 r7
    obtain ⟨u1, u2, -⟩ := (r1 : v1 = Int64.ofInt (b27 a1.1) ∧ NV a1.1 ∧ _)
    have u3 : v3 = Int32.ofInt a3.1 := r3.1
    have u5 : v5 = Int32.ofInt a5.1 := r5.1
    have u7 : v7 = Int32.ofInt a7.1 := r7.1
    obtain ⟨u8, u9⟩ := r7.2.1
    obtain ⟨s8, t1, t2, t3, t4⟩ := m_takes u8 u9 (o := 76) (by unfold wce; omega)
    have hD8 := RD_p hD (P.tr t4)
    have hw8 := WDS_p u9 t4
    -- crown or not
    have fin : ∀ (y : Int) (c9 : Cur), RC T n c9 s8 → kndS T n (dupD B N) c = .ok ((a1.1, a3.1, a5.1, a7.1, y), c9) → (f_X10_takes 76 s7).bind (fun q10 => (if q10.1 = 0 then f_X10_kindTold_j81 v1 v3 v5 v7 (Int32.ofInt 0) q10.2 else f_X10_kindTold_j81 v1 v3 v5 v7 (Int32.ofInt 1) q10.2)) = f_X10_kindTold_j81 v1 v3 v5 v7 (Int32.ofInt y) s8 → ∃ s', (f_X10_takes 76 s7).bind (fun q10 => (if q10.1 = 0 then f_X10_kindTold_j81 v1 v3 v5 v7 (Int32.ofInt 0) q10.2 else f_X10_kindTold_j81 v1 v3 v5 v7 (Int32.ofInt 1) q10.2)) = some s' ∧ BFr s s' ∧ (bK B = 5 → RB 5 bg s') ∧ (¬ bK B = 5 → RQ (kndS T n (dupD B N) c) (fun a => RD (addK B a.1.2.1 a.1.2.2.1 a.1.2.2.2.1 a.1.2.2.2.2) G (adN N 0 (bK B) a.1.1) s' ∧ NV a.1.1 ∧ RC T n a.2 s' ∧ WDS s') (fun k p => RB k p s')) := by
      intro y c9 hc9 hk hj
      rw [hj, hk]
      have h58 := hc9.b.1
      have hD8' := hD8
      obtain ⟨⟨⟨d1, d2, d3⟩, ⟨d4, d5, d6, d7⟩, d8, d9⟩, g1, g2, g3, g4, g5⟩ := hD8
      have ha := m_adds (s := s8) (k := 0) (v := bK B) (x := v1) (by omega) (by omega) d1 hVb.1 (by omega)
      have hK := hVb.1
      have hfr : ∀ o k : Nat, ¬ (o = 101 ∧ k = 0) → ¬ (o = 104 ∧ 4 * bK B ≤ (k : Int) ∧ (k : Int) < 20) → (uI (uI (uI (uI (uI (uJ s8 102 (8 * 0 + bK B).toNat v1) 101 (0 : Int).toNat (Int32.ofInt (bK B + 1))) 104 (4 * bK B).toNat v3) 104 (4 * bK B + 1).toNat v5) 104 (4 * bK B + 2).toNat v7) 104 (4 * bK B + 3).toNat (Int32.ofInt y)).1 o k = s8.1 o k := fun o k x1 x2 => by (simp only [ua, ja, u_2, u_3, j_1, j_3]; (repeat' split) <;> first | rfl | (exfalso; omega))
      refine ⟨uI (uI (uI (uI (uI (uJ s8 102 (8 * 0 + bK B).toNat v1) 101 (0 : Int).toNat (Int32.ofInt (bK B + 1))) 104 (4 * bK B).toNat v3) 104 (4 * bK B + 1).toNat v5) 104 (4 * bK B + 2).toNat v7) 104 (4 * bK B + 3).toNat (Int32.ofInt y), ?_, ?_, fun x => absurd x e5, fun _ => RQ.ok ⟨?_, u2, RC_fr hc9 ?_ ?_ ?_ ?_ ?_ ?_, ?_⟩⟩
      · simp (disch := omega) only [f_X10_kindTold_j81, h58, ↓bb ha, n_i8, n_i16, n_0, n_31, n_add, n_sub, n_mul, n_neg, n_div, n_rem, n_le_t, n_le_f, n_lt_t, n_lt_f, n_eq_t, n_eq_f, n_cl, n_gd, n_gdt, n_nz, Int.reduceToNat, Int.reduceAdd, Int.reduceSub, Int.reduceMul, Int.reduceNeg, Int.reduceLT, Int.reduceLE, Int.reduceEq, Int.reduceDiv, Int.reduceMod, Nat.reduceAdd, Nat.reduceMul, ↓reduceIte, ltd]
      · refine (P.tr t4).b.tr ⟨fun o k x => hfr o k (by unfold LO at x; omega) (by unfold LO at x; omega), fun o k x => ?_, rfl⟩
        show (uJ s8 102 (8 * 0 + bK B).toNat v1).2.1 o k = s8.2.1 o k
        by_cases y1 : o = 102
        · exact j_nk (by omega)
        · exact j_no y1
      · refine RD_K hV hD8' (by omega) u2 (fun a k x1 x2 x3 => hfr a k x2 x3) ?_ ?_ ?_ ?_ ?_ ?_ ?_
        · rw [u_no (by omega), u_no (by omega), u_no (by omega), u_no (by omega)]
          exact u_ek rfl
        · rw [u_nk (by omega), u_nk (by omega), u_nk (by omega), u_eq, u3]
        · rw [u_nk (by omega), u_nk (by omega), u_eq, u5]
        · rw [u_nk (by omega), u_eq, u7]
        · rw [u_eq]
        · show (uJ s8 102 (8 * 0 + bK B).toNat v1).2.1 102 (8 * 0 + bK B).toNat = _
          rw [j_eq, u1]
        · intro j hj
          show (uJ s8 102 (8 * 0 + bK B).toNat v1).2.1 102 j = _
          exact j_nk hj
      · exact hfr 65 2 (by omega) (by omega)
      · exact hfr 65 3 (by omega) (by omega)
      · exact hfr 65 4 (by omega) (by omega)
      · exact hfr 65 5 (by omega) (by omega)
      · exact hfr 65 6 (by omega) (by omega)
      · exact fun k => hfr 66 k (by omega) (by omega)
      · exact WDS_fr hw8 (fun o k ho => hfr o k (by omega) (by omega))
    cases e9 : isWL T n a7.2 (WDl 8) with
    | true =>
      have e9' : isWL T n a7.2 (WDl (wno 76)) = true := e9
      rw [e9'] at t1
      have t1 : f_X10_takes 76 s7 = some (Int32.ofInt 1, s8) := t1
      exact fin 1 (nxW T n a7.2) (t2 e9') (by unfold kndS; rw [e1, eb_ok, e2, eb_ok, e3, eb_ok, e4, eb_ok, e6, eb_ok, e7, eb_ok, e8, eb_ok, e9]; rfl) (by simp (disch := omega) only [↓bb t1, n_i8, n_i16, n_0, n_31, n_add, n_sub, n_mul, n_neg, n_div, n_rem, n_le_t, n_le_f, n_lt_t, n_lt_f, n_eq_t, n_eq_f, n_cl, n_gd, n_gdt, n_nz, Int.reduceToNat, Int.reduceAdd, Int.reduceSub, Int.reduceMul, Int.reduceNeg, Int.reduceLT, Int.reduceLE, Int.reduceEq, Int.reduceDiv, Int.reduceMod, Nat.reduceAdd, Nat.reduceMul, ↓reduceIte])
    | false =>
      have e9' : isWL T n a7.2 (WDl (wno 76)) = false := e9
      rw [e9'] at t1
      have t1 : f_X10_takes 76 s7 = some (Int32.ofInt 0, s8) := t1
      exact fin 0 a7.2 (t3 e9').rc (by unfold kndS; rw [e1, eb_ok, e2, eb_ok, e3, eb_ok, e4, eb_ok, e6, eb_ok, e7, eb_ok, e8, eb_ok, e9]; rfl) (by simp (disch := omega) only [↓bb t1, n_i8, n_i16, n_0, n_31, n_add, n_sub, n_mul, n_neg, n_div, n_rem, n_le_t, n_le_f, n_lt_t, n_lt_f, n_eq_t, n_eq_f, n_cl, n_gd, n_gdt, n_nz, Int.reduceToNat, Int.reduceAdd, Int.reduceSub, Int.reduceMul, Int.reduceNeg, Int.reduceLT, Int.reduceLE, Int.reduceEq, Int.reduceDiv, Int.reduceMod, Nat.reduceAdd, Nat.reduceMul, ↓reduceIte])
