/-! L3: the class's composer reads SUMS and TESTS -/
/-- the formula f holds these codes -/
def CS (m : Bool) (f : Nat) (cs : List Int) (s : ST) : Prop := RR s.2.2 5 1 = some f ∧ s.1 5 2 = bI m ∧ s.1 f 1 = Int32.ofInt (cs.length : Int) ∧ ∀ i : Nat, i < cs.length → s.1 (f + 1) i = Int32.ofInt (toC (cs.getD i 0))
def DS (f : Nat) (s : ST) : Prop := RR s.2.2 5 1 = some f ∧ ∃ N : Int, 0 ≤ N ∧ N ≤ 1600 ∧ s.1 f 1 = Int32.ofInt N
def CPf (f : Nat) (s s' : ST) : Prop := (∀ o k : Nat, ¬ o = 3 → ¬ (o = f ∧ k = 1) → ¬ o = f + 1 → s'.1 o k = s.1 o k) ∧ s'.2 = s.2
theorem CPf.rf (f : Nat) (s : ST) : CPf f s s := ⟨fun _ _ _ _ _ => rfl, rfl⟩
theorem CPf.tr {f : Nat} {s t u : ST} (h1 : CPf f s t) (h2 : CPf f t u) : CPf f s u := ⟨fun o k x y z => (h2.1 o k x y z).trans (h1.1 o k x y z), h2.2.trans h1.2⟩
theorem CFr.cp {s s' : ST} (h : CFr s s') (f : Nat) : CPf f s s' := ⟨fun o k x _ _ => h.1 o k x, h.2⟩
def FQ (f : Nat) : Prop := f = 18 ∨ f = 32 ∨ f = 34
theorem fq_k {f : Nat} (h : FQ f) : kk f 2 = true := by rcases h with rfl | rfl | rfl <;> rfl
theorem fq_r {f : Nat} (h : FQ f) (ρ : Nat → Option Nat) : RR ρ f 0 = some (f + 1) := by rcases h with rfl | rfl | rfl <;> rfl
theorem fq_kr {f : Nat} (h : FQ f) : kr (f + 1) = true := by rcases h with rfl | rfl | rfl <;> rfl
theorem fq_k1 {f : Nat} (h : FQ f) : kk (f + 1) 13 = true := by rcases h with rfl | rfl | rfl <;> rfl
theorem fq_n {f : Nat} (h : FQ f) : (K0 (f + 1)).2 = 1600 := by rcases h with rfl | rfl | rfl <;> rfl
theorem c_put {m : Bool} {f : Nat} (hf : FQ f) {cs : List Int} {s : ST} (h : CS m f cs s) (hl : (cs.length : Int) < 1600) (x : Int) : ∃ s', f_X1_put (Int32.ofInt (toC x)) s = some s' ∧ CS m f (cs ++ [x]) s' ∧ (∀ o k : Nat, ¬ (o = f ∧ k = 1) → ¬ o = f + 1 → s'.1 o k = s.1 o k) ∧ s'.2 = s.2 := by
  have hfb : f = 18 ∨ f = 32 ∨ f = 34 := hf
  obtain ⟨h1, h2, h3, h4⟩ := h
  have k1 := fq_k hf
  have k2 := fq_r hf s.2.2
  have k3 := fq_kr hf
  have k4 := fq_k1 hf
  have k5 := fq_n hf
  have fr : ∀ o k : Nat, ¬ (o = f ∧ k = 1) → ¬ o = f + 1 → (uI (uI s (f + 1) cs.length (Int32.ofInt (toC x))) f 1 (Int32.ofInt ((cs.length : Int) + 1))).1 o k = s.1 o k := fun o k a b => by (simp only [ua, ja, u_2, u_3, j_1, j_3]; (repeat' split) <;> first | rfl | (exfalso; omega))
  refine ⟨uI (uI s (f + 1) cs.length (Int32.ofInt (toC x))) f 1 (Int32.ofInt ((cs.length : Int) + 1)), ?_, ⟨h1, (fr 5 2 (by omega) (by omega)).trans h2, ?_, fun i hi => ?_⟩, fr, rfl⟩
  · have on : Int32.ofNat 1600 = Int32.ofInt 1600 := rfl
    have e5 : ∀ {α : Type} {y : Option α}, gd (ib (Int32.ofInt (cs.length : Int)) 1600) y = y := by intro α y; exact n_gd (by omega) (by omega) (by omega)
    have ecl : (Int32.ofInt (cs.length : Int)).toNatClampNeg = cs.length := by rw [n_cl (by omega) (by omega)]; omega
    simp (disch := omega) only [f_X1_put, f_X2_put, h1, h3, k1, k2, k3, k4, k5, on, e5, ecl, n_i8, n_i16, n_0, n_31, n_add, n_sub, n_mul, n_neg, n_div, n_rem, n_le_t, n_le_f, n_lt_t, n_lt_f, n_eq_t, n_eq_f, n_cl, n_gd, n_gdt, n_nz, Int.reduceToNat, Int.reduceAdd, Int.reduceSub, Int.reduceMul, Int.reduceNeg, Int.reduceLT, Int.reduceLE, Int.reduceEq, Int.reduceDiv, Int.reduceMod, Nat.reduceAdd, Nat.reduceMul, ↓reduceIte, u_eq, u_no, u_nk, u_ek, u_2, u_3, j_1, j_3, j_eq, j_no, j_nk, ltd, bnd]
  · rw [u_eq, List.length_append, List.length_singleton]
    rfl
  · rw [List.length_append, List.length_singleton] at hi
    rw [u_no (by omega)]
    by_cases e : i = cs.length
    · subst e
      rw [u_eq, List.getD_eq_getElem?_getD, List.getElem?_append_right (Nat.le_refl _), Nat.sub_self]
      rfl
    · rw [u_nk e, h4 i (by omega), List.getD_eq_getElem?_getD, List.getD_eq_getElem?_getD, List.getElem?_append_left (by omega)]
theorem c_putD {f : Nat} (hf : FQ f) {s : ST} (h : DS f s) (x : Int32) : ∃ s', f_X1_put x s = some s' ∧ DS f s' ∧ (∀ o k : Nat, ¬ (o = f ∧ k = 1) → ¬ o = f + 1 → s'.1 o k = s.1 o k) ∧ s'.2 = s.2 := by
  have hfb : f = 18 ∨ f = 32 ∨ f = 34 := hf
  obtain ⟨h1, N, n0, n1, h3⟩ := h
  have k1 := fq_k hf
  have k2 := fq_r hf s.2.2
  have k3 := fq_kr hf
  have k4 := fq_k1 hf
  have k5 := fq_n hf
  have on : Int32.ofNat 1600 = Int32.ofInt 1600 := rfl
  by_cases e : N = 1600
  · refine ⟨s, ?_, ⟨h1, N, n0, n1, h3⟩, fun _ _ _ _ => rfl, rfl⟩
    simp (disch := omega) only [f_X1_put, f_X2_put, h1, h3, k1, k2, k3, k4, k5, on, n_i8, n_i16, n_0, n_31, n_add, n_sub, n_mul, n_neg, n_div, n_rem, n_le_t, n_le_f, n_lt_t, n_lt_f, n_eq_t, n_eq_f, n_cl, n_gd, n_gdt, n_nz, Int.reduceToNat, Int.reduceAdd, Int.reduceSub, Int.reduceMul, Int.reduceNeg, Int.reduceLT, Int.reduceLE, Int.reduceEq, Int.reduceDiv, Int.reduceMod, Nat.reduceAdd, Nat.reduceMul, ↓reduceIte, u_eq, u_no, u_nk, u_ek, u_2, u_3, j_1, j_3, j_eq, j_no, j_nk, ltd, bnd]
  · refine ⟨uI (uI s (f + 1) N.toNat x) f 1 (Int32.ofInt (N + 1)), ?_, ⟨h1, N + 1, by omega, by omega, u_eq _ _ _ _⟩, fun o k a b => by (simp only [ua, ja, u_2, u_3, j_1, j_3]; (repeat' split) <;> first | rfl | (exfalso; omega)), rfl⟩
    simp (disch := omega) only [f_X1_put, f_X2_put, h1, h3, k1, k2, k3, k4, k5, on, n_i8, n_i16, n_0, n_31, n_add, n_sub, n_mul, n_neg, n_div, n_rem, n_le_t, n_le_f, n_lt_t, n_lt_f, n_eq_t, n_eq_f, n_cl, n_gd, n_gdt, n_nz, Int.reduceToNat, Int.reduceAdd, Int.reduceSub, Int.reduceMul, Int.reduceNeg, Int.reduceLT, Int.reduceLE, Int.reduceEq, Int.reduceDiv, Int.reduceMod, Nat.reduceAdd, Nat.reduceMul, ↓reduceIte, u_eq, u_no, u_nk, u_ek, u_2, u_3, j_1, j_3, j_eq, j_no, j_nk, ltd, bnd]
theorem CS.ds {m : Bool} {f : Nat} {cs : List Int} {s : ST} (h : CS m f cs s) (hl : (cs.length : Int) ≤ 1600) : DS f s := ⟨h.1, cs.length, by omega, hl, h.2.2.1⟩
theorem CS_fr {m : Bool} {f : Nat} (hf : FQ f) {cs : List Int} {s s' : ST} (h : CS m f cs s) (hx : CFr s s') : CS m f cs s' := by
  have hfb : f = 18 ∨ f = 32 ∨ f = 34 := hf
  exact ⟨by rw [hx.2]; exact h.1, (hx.1 5 2 (by omega)).trans h.2.1, (hx.1 f 1 (by omega)).trans h.2.2.1, fun i hi => (hx.1 (f + 1) i (by omega)).trans (h.2.2.2 i hi)⟩
theorem DS_fr {f : Nat} (hf : FQ f) {s s' : ST} (h : DS f s) (hx : CFr s s') : DS f s' := by
  have hfb : f = 18 ∨ f = 32 ∨ f = 34 := hf
  obtain ⟨h1, N, n0, n1, h3⟩ := h
  exact ⟨by rw [hx.2]; exact h1, N, n0, n1, (hx.1 f 1 (by omega)).trans h3⟩
section CM
variable (T : Int → Int) (n : Int) (m : Bool) (f : Nat)
/-- what a part of the composer comes to -/
def OUT (cs : List Int) (r : PR) (s s' : ST) : Prop := CPf f s s' ∧ RQ r (fun a => CC T n a.2 s' ∧ CS m f (cs ++ a.1) s') (fun k p => CD k p s' ∧ DS f s')
def IM (g : ST → Option ST) (p : Cur → PR) : Prop := (∀ c cs s, CC T n c s → CS m f cs s → (cs.length : Int) ≤ c.1 → ∃ s', g s = some s' ∧ OUT T n m f cs (p c) s s') ∧ (∀ k q s, CD k q s → DS f s → ∃ s', g s = some s' ∧ (CD k q s' ∧ DS f s') ∧ CPf f s s')
end CM
variable {T : Int → Int} {n : Int} {m : Bool} {f : Nat}
theorem OUT.tr {cs : List Int} {r : PR} {s t u : ST} (h1 : CPf f s t) (h2 : OUT T n m f cs r t u) : OUT T n m f cs r s u := ⟨h1.tr h2.1, h2.2⟩
theorem CC.nb {c : Cur} {s : ST} (h : CC T n c s) : 0 ≤ c.1 ∧ c.1 ≤ n ∧ n ≤ 1600 := ⟨h.2.1.1, h.2.1.2, h.1.2.1.2⟩
/-- a part, then what follows -/
theorem IM.sq {g : ST → Option ST} {p : Cur → PR} (hp : IM T n m f g p) (hb : SB n p) {c : Cur} {cs : List Int} {s : ST} (hc : CC T n c s) (hs : CS m f cs s) (hl : (cs.length : Int) ≤ c.1) {k : List Int → Cur → PR} {K : ST → Option ST} (h1 : ∀ l2 c2 s2, CPf f s s2 → CC T n c2 s2 → CS m f (cs ++ l2) s2 → c.1 + (l2.length : Int) ≤ c2.1 → c.1 < c2.1 → c2.1 ≤ n → ∃ s', K s2 = some s' ∧ OUT T n m f cs (k l2 c2) s2 s') (h2 : ∀ k' q s2, CPf f s s2 → CD k' q s2 → DS f s2 → ∃ s', K s2 = some s' ∧ (CD k' q s' ∧ DS f s') ∧ CPf f s2 s') : ∃ s', (g s).bind K = some s' ∧ OUT T n m f cs (sq (p c) k) s s' := by
  obtain ⟨s2, q1, q2, q3⟩ := hp.1 c cs s hc hs hl
  rw [q1, bnd]
  have hn := hc.nb
  have hr := hb c hn.1 hn.2.1
  cases e : p c with
  | ok a =>
    rw [e] at q3 hr
    obtain ⟨r1, r2, r3⟩ := (hr : c.1 + a.1.length ≤ a.2.1 ∧ c.1 < a.2.1 ∧ a.2.1 ≤ n)
    obtain ⟨u1, u2⟩ := (q3 : CC T n a.2 s2 ∧ CS m f (cs ++ a.1) s2)
    obtain ⟨s', v1, v2⟩ := h1 a.1 a.2 s2 q2 u1 u2 r1 r2 r3
    exact ⟨s', v1, v2.tr q2⟩
  | error x =>
    rw [e] at q3
    obtain ⟨u1, u2⟩ := (q3 : CD x.1 x.2 s2 ∧ DS f s2)
    obtain ⟨s', v1, v2, v3⟩ := h2 x.1 x.2 s2 q2 u1 u2
    exact ⟨s', v1, q2.tr v3, v2⟩
theorem c_putC (hf : FQ f) {c : Cur} {cs : List Int} {s : ST} (hc : CC T n c s) (h : CS m f cs s) (hl : (cs.length : Int) < 1600) (x : Int) : ∃ s', f_X1_put (Int32.ofInt (toC x)) s = some s' ∧ CC T n c s' ∧ CS m f (cs ++ [x]) s' ∧ CPf f s s' := by
  have hfb : f = 18 ∨ f = 32 ∨ f = 34 := hf
  obtain ⟨s', q1, q2, q3, q4⟩ := c_put hf h hl x
  exact ⟨s', q1, CC_fr hc (fun o k ho => q3 o k (by omega) (by omega)), q2, fun o k _ a b => q3 o k a b, q4⟩
theorem c_putE (hf : FQ f) {k q : Int} {s : ST} (hc : CD k q s) (h : DS f s) (x : Int32) : ∃ s', f_X1_put x s = some s' ∧ (CD k q s' ∧ DS f s') ∧ CPf f s s' := by
  have hfb : f = 18 ∨ f = 32 ∨ f = 34 := hf
  obtain ⟨s', q1, q2, q3, q4⟩ := c_putD hf h x
  exact ⟨s', q1, ⟨CD_fr hc (fun k => q3 3 k (by omega) (by omega)), q2⟩, fun o k _ a b => q3 o k a b, q4⟩
theorem c_stepS (hf : FQ f) {c : Cur} {cs : List Int} {s : ST} (hc : CC T n c s) (h : CS m f cs s) : ∃ s', f_X5_step s = some s' ∧ CC T n (nx T n c) s' ∧ CS m f cs s' ∧ CPf f s s' := by
  obtain ⟨s', q1, q2, q3⟩ := c_step hc
  exact ⟨s', q1, q2, CS_fr hf h q3, q3.cp f⟩
theorem nx_b {c : Cur} (c0 : 0 ≤ c.1) (cn : c.1 ≤ n) : c.1 ≤ (nx T n c).1 := by
  have h1 := beh_b (T := T) cn
  have h2 := frm_b (T := T) c0 cn
  show c.1 ≤ beh T n c
  omega
/-! products -/
theorem c_prD (rc : Int32 → ST → Option ST) {k q : Int} {s : ST} (h : CD k q s) (F : Nat) (o i : Int32) : f_X1_product_L7 rc (F + 1) o i s = some s := by
  have a1 := c_isSD h (Int32.ofInt 42)
  have a2 := c_isSD h (Int32.ofInt 47)
  rw [f_X1_product_L7]
  by_cases e : (Int16.ofInt 1600).toInt32 ≤ i
  · rw [if_pos e]
  · rw [if_neg e]
    simp (disch := omega) only [a1, a2, n_i8, n_i16, n_0, n_31, n_add, n_sub, n_mul, n_neg, n_div, n_rem, n_le_t, n_le_f, n_lt_t, n_lt_f, n_eq_t, n_eq_f, n_cl, n_gd, n_gdt, n_nz, Int.reduceToNat, Int.reduceAdd, Int.reduceSub, Int.reduceMul, Int.reduceNeg, Int.reduceLT, Int.reduceLE, Int.reduceEq, Int.reduceDiv, Int.reduceMod, Nat.reduceAdd, Nat.reduceMul, ↓reduceIte, u_eq, u_no, u_nk, u_ek, u_2, u_3, j_1, j_3, j_eq, j_no, j_nk, ltd, bnd]
theorem c_prL (hf : FQ f) {rc : Int32 → ST → Option ST} {o : Int32} {p : Cur → PR} (hp : IM T n m f (rc o) p) (hb : SB n p) : ∀ (k F : Nat) (i : Int) (c : Cur) (cs l : List Int) (s : ST), CC T n c s → CS m f (cs ++ l) s → ((cs ++ l).length : Int) ≤ c.1 → (k : Int) + i = 1600 → 0 ≤ i → k < F → ∃ s', f_X1_product_L7 rc F o (Int32.ofInt i) s = some s' ∧ OUT T n m f cs (prodL T n p k l c) s s' := by
  intro k
  induction k with
  | zero =>
    intro F i c cs l s hc hs hl hi i0 hF
    obtain ⟨F, rfl⟩ : ∃ F', F = F' + 1 := ⟨F - 1, by omega⟩
    refine ⟨s, ?_, CPf.rf f s, RQ.ok ⟨hc, hs⟩⟩
    simp (disch := omega) only [f_X1_product_L7, n_i8, n_i16, n_0, n_31, n_add, n_sub, n_mul, n_neg, n_div, n_rem, n_le_t, n_le_f, n_lt_t, n_lt_f, n_eq_t, n_eq_f, n_cl, n_gd, n_gdt, n_nz, Int.reduceToNat, Int.reduceAdd, Int.reduceSub, Int.reduceMul, Int.reduceNeg, Int.reduceLT, Int.reduceLE, Int.reduceEq, Int.reduceDiv, Int.reduceMod, Nat.reduceAdd, Nat.reduceMul, ↓reduceIte, u_eq, u_no, u_nk, u_ek, u_2, u_3, j_1, j_3, j_eq, j_no, j_nk, ltd, bnd]
  | succ k ih =>
    intro F i c cs l s hc hs hl hi i0 hF
    obtain ⟨F, rfl⟩ : ∃ F', F = F' + 1 := ⟨F - 1, by omega⟩
    obtain ⟨F, rfl⟩ : ∃ F', F = F' + 1 := ⟨F - 1, by omega⟩
    have hn := hc.nb
    have a1 := c_isS hc (ch := 42) (by omega) (by omega) (by decide)
    have a2 := c_isS hc (ch := 47) (by omega) (by omega) (by decide)
    have main : ∀ z : Int, 1 ≤ z → z ≤ 12 → (isSg T n c 42 = true ∨ isSg T n c 47 = true) → ∃ s', (f_X5_step s).bind (fun q9 => (rc o q9).bind (fun q10 => (f_X1_put (Int32.ofInt (-z)) q10).bind (fun q11 => f_X1_product_L7 rc (F + 1) o (Int32.ofInt i + Int32.ofInt 1) q11))) = some s' ∧ OUT T n m f cs (sq (p (nxS T n c)) (fun l2 c2 => prodL T n p k (l ++ l2 ++ [z]) c2)) s s' := by
      intro z z1 z2 hsg
      obtain ⟨s1, q1, q2, q3, q4⟩ := c_stepS hf hc hs
      have enx : nx T n c = nxS T n c := by
        rcases hsg with e | e
        · exact nx_S (by decide) e
        · exact nx_S (by decide) e
      have hsb : c.1 < (nxS T n c).1 ∧ (nxS T n c).1 ≤ n := by
        rcases hsg with e | e
        · exact sg_b e hn.1 hn.2.1
        · exact sg_b e hn.1 hn.2.1
      rw [enx] at q2
      rw [q1, bnd]
      have etc : Int32.ofInt (-z) = Int32.ofInt (toC z) := by
        unfold toC
        rw [if_neg (by omega), if_neg (by omega), if_neg (by omega), if_neg (by omega)]
      -- the list so far is cs ++ l
      obtain ⟨s2, x1, x2, x3⟩ := hp.1 (nxS T n c) (cs ++ l) s1 q2 q3 (by omega)
      rw [x1, bnd]
      have hr := hb (nxS T n c) (by omega) hsb.2
      cases e : p (nxS T n c) with
      | error x =>
        rw [e] at x3
        obtain ⟨u1, u2⟩ := (x3 : CD x.1 x.2 s2 ∧ DS f s2)
        obtain ⟨s3, w1, w2, w3⟩ := c_putE hf u1 u2 (Int32.ofInt (-z))
        refine ⟨s3, ?_, (q4.tr x2).tr w3, RQ.er w2⟩
        rw [w1, bnd]
        exact c_prD rc w2.1 F o _
      | ok a =>
        rw [e] at x3 hr
        obtain ⟨r1, r2, r3⟩ := (hr : (nxS T n c).1 + a.1.length ≤ a.2.1 ∧ (nxS T n c).1 < a.2.1 ∧ a.2.1 ≤ n)
        obtain ⟨u1, u2⟩ := (x3 : CC T n a.2 s2 ∧ CS m f (cs ++ l ++ a.1) s2)
        have hlen : ((cs ++ l ++ a.1).length : Int) < a.2.1 := by rw [List.length_append]; omega
        obtain ⟨s3, w1, w2, w3, w4⟩ := c_putC hf u1 u2 (by omega) z
        have eas : cs ++ l ++ a.1 ++ [z] = cs ++ (l ++ a.1 ++ [z]) := by rw [List.append_assoc, List.append_assoc, List.append_assoc]
        rw [eas] at w3
        obtain ⟨s', v1, v2⟩ := ih (F + 1) (i + 1) a.2 cs (l ++ a.1 ++ [z]) s3 w2 w3 (by rw [← eas, List.length_append, List.length_singleton]; omega) (by omega) (by omega) (by omega)
        refine ⟨s', ?_, v2.tr ((q4.tr x2).tr w4)⟩
        rw [etc, w1, bnd, n_add]
        exact v1
    cases e1 : isSg T n c 42 with
    | true =>
      rw [e1] at a1
      obtain ⟨s', v1, v2⟩ := main 3 (by omega) (by omega) (Or.inl e1)
      refine ⟨s', ?_, ?_⟩
      · rw [← v1, f_X1_product_L7]
        simp (disch := omega) only [f_X1_product_j38, f_X1_product_j57, a1, bI_t, n_i8, n_i16, n_0, n_31, n_add, n_sub, n_mul, n_neg, n_div, n_rem, n_le_t, n_le_f, n_lt_t, n_lt_f, n_eq_t, n_eq_f, n_cl, n_gd, n_gdt, n_nz, Int.reduceToNat, Int.reduceAdd, Int.reduceSub, Int.reduceMul, Int.reduceNeg, Int.reduceLT, Int.reduceLE, Int.reduceEq, Int.reduceDiv, Int.reduceMod, Nat.reduceAdd, Nat.reduceMul, ↓reduceIte, bnd]
      · unfold prodL
        rw [if_pos e1]
        exact v2
    | false =>
      rw [e1] at a1
      cases e2 : isSg T n c 47 with
      | true =>
        rw [e2] at a2
        obtain ⟨s', v1, v2⟩ := main 4 (by omega) (by omega) (Or.inr e2)
        refine ⟨s', ?_, ?_⟩
        · rw [← v1, f_X1_product_L7]
          simp (disch := omega) only [f_X1_product_j38, f_X1_product_j57, a1, a2, bI_t, bI_f, n_i8, n_i16, n_0, n_31, n_add, n_sub, n_mul, n_neg, n_div, n_rem, n_le_t, n_le_f, n_lt_t, n_lt_f, n_eq_t, n_eq_f, n_cl, n_gd, n_gdt, n_nz, Int.reduceToNat, Int.reduceAdd, Int.reduceSub, Int.reduceMul, Int.reduceNeg, Int.reduceLT, Int.reduceLE, Int.reduceEq, Int.reduceDiv, Int.reduceMod, Nat.reduceAdd, Nat.reduceMul, ↓reduceIte, bnd]
        · unfold prodL
          rw [e1, if_neg (by decide), if_pos e2]
          exact v2
      | false =>
        rw [e2] at a2
        refine ⟨s, ?_, ?_⟩
        · simp (disch := omega) only [f_X1_product_L7, a1, a2, bI_f, n_i8, n_i16, n_0, n_31, n_add, n_sub, n_mul, n_neg, n_div, n_rem, n_le_t, n_le_f, n_lt_t, n_lt_f, n_eq_t, n_eq_f, n_cl, n_gd, n_gdt, n_nz, Int.reduceToNat, Int.reduceAdd, Int.reduceSub, Int.reduceMul, Int.reduceNeg, Int.reduceLT, Int.reduceLE, Int.reduceEq, Int.reduceDiv, Int.reduceMod, Nat.reduceAdd, Nat.reduceMul, ↓reduceIte, bnd]
        · unfold prodL
          rw [e1, e2, if_neg (by decide), if_neg (by decide)]
          exact ⟨CPf.rf f s, hc, hs⟩
theorem c_prod (hf : FQ f) {rc : Int32 → ST → Option ST} {o : Int32} {p : Cur → PR} (hp : IM T n m f (rc o) p) (hb : SB n p) : IM T n m f (f_X1_product rc o) (prodD T n p) := by
  obtain ⟨F, hF⟩ : ∃ F, fuel = F + 1 := ⟨99999, rfl⟩
  refine ⟨fun c cs s hc hs hl => ?_, fun k q s hc hs => ?_⟩
  · refine IM.sq hp hb hc hs hl (fun l2 c2 s2 a1 a2 a3 a4 a5 a6 => ?_) (fun k' q s2 a1 a2 a3 => ⟨s2, ?_, ⟨a2, a3⟩, CPf.rf f s2⟩)
    · exact c_prL hf hp hb 1600 fuel 0 c2 cs l2 s2 a2 a3 (by rw [List.length_append]; omega) (by omega) (by omega) (by unfold fuel; omega)
    · rw [hF]
      exact c_prD rc a2 F o _
  · obtain ⟨s1, q1, q2, q3⟩ := hp.2 k q s hc hs
    refine ⟨s1, ?_, q2, q3⟩
    unfold f_X1_product
    rw [q1, bnd, hF]
    exact c_prD rc q2.1 F o _
/-! sums -/
theorem c_suD (rc : Int32 → ST → Option ST) {k q : Int} {s : ST} (h : CD k q s) (F : Nat) (o i : Int32) : f_X1_sum_L7 rc (F + 1) o i s = some s := by
  have a1 := c_isSD h (Int32.ofInt 43)
  have a2 := c_isSD h (Int32.ofInt 45)
  rw [f_X1_sum_L7]
  by_cases e : (Int16.ofInt 1600).toInt32 ≤ i
  · rw [if_pos e]
  · rw [if_neg e]
    simp (disch := omega) only [a1, a2, n_i8, n_i16, n_0, n_31, n_add, n_sub, n_mul, n_neg, n_div, n_rem, n_le_t, n_le_f, n_lt_t, n_lt_f, n_eq_t, n_eq_f, n_cl, n_gd, n_gdt, n_nz, Int.reduceToNat, Int.reduceAdd, Int.reduceSub, Int.reduceMul, Int.reduceNeg, Int.reduceLT, Int.reduceLE, Int.reduceEq, Int.reduceDiv, Int.reduceMod, Nat.reduceAdd, Nat.reduceMul, ↓reduceIte, u_eq, u_no, u_nk, u_ek, u_2, u_3, j_1, j_3, j_eq, j_no, j_nk, ltd, bnd]
theorem c_suL (hf : FQ f) {rc : Int32 → ST → Option ST} {o : Int32} {p : Cur → PR} (hp : IM T n m f (rc o) p) (hb : SB n p) : ∀ (k F : Nat) (i : Int) (c : Cur) (cs l : List Int) (s : ST), CC T n c s → CS m f (cs ++ l) s → ((cs ++ l).length : Int) ≤ c.1 → (k : Int) + i = 1600 → 0 ≤ i → k < F → ∃ s', f_X1_sum_L7 rc F o (Int32.ofInt i) s = some s' ∧ OUT T n m f cs (sumL T n p k l c) s s' := by
  intro k
  induction k with
  | zero =>
    intro F i c cs l s hc hs hl hi i0 hF
    obtain ⟨F, rfl⟩ : ∃ F', F = F' + 1 := ⟨F - 1, by omega⟩
    refine ⟨s, ?_, CPf.rf f s, RQ.ok ⟨hc, hs⟩⟩
    simp (disch := omega) only [f_X1_sum_L7, n_i8, n_i16, n_0, n_31, n_add, n_sub, n_mul, n_neg, n_div, n_rem, n_le_t, n_le_f, n_lt_t, n_lt_f, n_eq_t, n_eq_f, n_cl, n_gd, n_gdt, n_nz, Int.reduceToNat, Int.reduceAdd, Int.reduceSub, Int.reduceMul, Int.reduceNeg, Int.reduceLT, Int.reduceLE, Int.reduceEq, Int.reduceDiv, Int.reduceMod, Nat.reduceAdd, Nat.reduceMul, ↓reduceIte, u_eq, u_no, u_nk, u_ek, u_2, u_3, j_1, j_3, j_eq, j_no, j_nk, ltd, bnd]
  | succ k ih =>
    intro F i c cs l s hc hs hl hi i0 hF
    obtain ⟨F, rfl⟩ : ∃ F', F = F' + 1 := ⟨F - 1, by omega⟩
    obtain ⟨F, rfl⟩ : ∃ F', F = F' + 1 := ⟨F - 1, by omega⟩
    have hn := hc.nb
    have a1 := c_isS hc (ch := 43) (by omega) (by omega) (by decide)
    have a2 := c_isS hc (ch := 45) (by omega) (by omega) (by decide)
    have main : ∀ z : Int, 1 ≤ z → z ≤ 12 → (isSg T n c 43 = true ∨ isSg T n c 45 = true) → ∃ s', (f_X5_step s).bind (fun q9 => (rc o q9).bind (fun q10 => (f_X1_put (Int32.ofInt (-z)) q10).bind (fun q11 => f_X1_sum_L7 rc (F + 1) o (Int32.ofInt i + Int32.ofInt 1) q11))) = some s' ∧ OUT T n m f cs (sq (p (nxS T n c)) (fun l2 c2 => sumL T n p k (l ++ l2 ++ [z]) c2)) s s' := by
      intro z z1 z2 hsg
      obtain ⟨s1, q1, q2, q3, q4⟩ := c_stepS hf hc hs
      have enx : nx T n c = nxS T n c := by
        rcases hsg with e | e
        · exact nx_S (by decide) e
        · exact nx_S (by decide) e
      have hsb : c.1 < (nxS T n c).1 ∧ (nxS T n c).1 ≤ n := by
        rcases hsg with e | e
        · exact sg_b e hn.1 hn.2.1
        · exact sg_b e hn.1 hn.2.1
      rw [enx] at q2
      rw [q1, bnd]
      have etc : Int32.ofInt (-z) = Int32.ofInt (toC z) := by
        unfold toC
        rw [if_neg (by omega), if_neg (by omega), if_neg (by omega), if_neg (by omega)]
      -- the list so far is cs ++ l
      obtain ⟨s2, x1, x2, x3⟩ := hp.1 (nxS T n c) (cs ++ l) s1 q2 q3 (by omega)
      rw [x1, bnd]
      have hr := hb (nxS T n c) (by omega) hsb.2
      cases e : p (nxS T n c) with
      | error x =>
        rw [e] at x3
        obtain ⟨u1, u2⟩ := (x3 : CD x.1 x.2 s2 ∧ DS f s2)
        obtain ⟨s3, w1, w2, w3⟩ := c_putE hf u1 u2 (Int32.ofInt (-z))
        refine ⟨s3, ?_, (q4.tr x2).tr w3, RQ.er w2⟩
        rw [w1, bnd]
        exact c_suD rc w2.1 F o _
      | ok a =>
        rw [e] at x3 hr
        obtain ⟨r1, r2, r3⟩ := (hr : (nxS T n c).1 + a.1.length ≤ a.2.1 ∧ (nxS T n c).1 < a.2.1 ∧ a.2.1 ≤ n)
        obtain ⟨u1, u2⟩ := (x3 : CC T n a.2 s2 ∧ CS m f (cs ++ l ++ a.1) s2)
        have hlen : ((cs ++ l ++ a.1).length : Int) < a.2.1 := by rw [List.length_append]; omega
        obtain ⟨s3, w1, w2, w3, w4⟩ := c_putC hf u1 u2 (by omega) z
        have eas : cs ++ l ++ a.1 ++ [z] = cs ++ (l ++ a.1 ++ [z]) := by rw [List.append_assoc, List.append_assoc, List.append_assoc]
        rw [eas] at w3
        obtain ⟨s', v1, v2⟩ := ih (F + 1) (i + 1) a.2 cs (l ++ a.1 ++ [z]) s3 w2 w3 (by rw [← eas, List.length_append, List.length_singleton]; omega) (by omega) (by omega) (by omega)
        refine ⟨s', ?_, v2.tr ((q4.tr x2).tr w4)⟩
        rw [etc, w1, bnd, n_add]
        exact v1
    cases e1 : isSg T n c 43 with
    | true =>
      rw [e1] at a1
      obtain ⟨s', v1, v2⟩ := main 1 (by omega) (by omega) (Or.inl e1)
      refine ⟨s', ?_, ?_⟩
      · rw [← v1, f_X1_sum_L7]
        simp (disch := omega) only [f_X1_sum_j38, f_X1_sum_j56, a1, bI_t, n_i8, n_i16, n_0, n_31, n_add, n_sub, n_mul, n_neg, n_div, n_rem, n_le_t, n_le_f, n_lt_t, n_lt_f, n_eq_t, n_eq_f, n_cl, n_gd, n_gdt, n_nz, Int.reduceToNat, Int.reduceAdd, Int.reduceSub, Int.reduceMul, Int.reduceNeg, Int.reduceLT, Int.reduceLE, Int.reduceEq, Int.reduceDiv, Int.reduceMod, Nat.reduceAdd, Nat.reduceMul, ↓reduceIte, bnd]
      · unfold sumL
        rw [if_pos e1]
        exact v2
    | false =>
      rw [e1] at a1
      cases e2 : isSg T n c 45 with
      | true =>
        rw [e2] at a2
        obtain ⟨s', v1, v2⟩ := main 2 (by omega) (by omega) (Or.inr e2)
        refine ⟨s', ?_, ?_⟩
        · rw [← v1, f_X1_sum_L7]
          simp (disch := omega) only [f_X1_sum_j38, f_X1_sum_j56, a1, a2, bI_t, bI_f, n_i8, n_i16, n_0, n_31, n_add, n_sub, n_mul, n_neg, n_div, n_rem, n_le_t, n_le_f, n_lt_t, n_lt_f, n_eq_t, n_eq_f, n_cl, n_gd, n_gdt, n_nz, Int.reduceToNat, Int.reduceAdd, Int.reduceSub, Int.reduceMul, Int.reduceNeg, Int.reduceLT, Int.reduceLE, Int.reduceEq, Int.reduceDiv, Int.reduceMod, Nat.reduceAdd, Nat.reduceMul, ↓reduceIte, bnd]
        · unfold sumL
          rw [e1, if_neg (by decide), if_pos e2]
          exact v2
      | false =>
        rw [e2] at a2
        refine ⟨s, ?_, ?_⟩
        · simp (disch := omega) only [f_X1_sum_L7, a1, a2, bI_f, n_i8, n_i16, n_0, n_31, n_add, n_sub, n_mul, n_neg, n_div, n_rem, n_le_t, n_le_f, n_lt_t, n_lt_f, n_eq_t, n_eq_f, n_cl, n_gd, n_gdt, n_nz, Int.reduceToNat, Int.reduceAdd, Int.reduceSub, Int.reduceMul, Int.reduceNeg, Int.reduceLT, Int.reduceLE, Int.reduceEq, Int.reduceDiv, Int.reduceMod, Nat.reduceAdd, Nat.reduceMul, ↓reduceIte, bnd]
        · unfold sumL
          rw [e1, e2, if_neg (by decide), if_neg (by decide)]
          exact ⟨CPf.rf f s, hc, hs⟩
theorem c_sum (hf : FQ f) {rc : Int32 → ST → Option ST} {o : Int32} {p : Cur → PR} (hp : IM T n m f (rc o) p) (hb : SB n p) : IM T n m f (f_X1_sum rc o) (sumD T n p) := by
  obtain ⟨F, hF⟩ : ∃ F, fuel = F + 1 := ⟨99999, rfl⟩
  refine ⟨fun c cs s hc hs hl => ?_, fun k q s hc hs => ?_⟩
  · refine IM.sq hp hb hc hs hl (fun l2 c2 s2 a1 a2 a3 a4 a5 a6 => ?_) (fun k' q s2 a1 a2 a3 => ⟨s2, ?_, ⟨a2, a3⟩, CPf.rf f s2⟩)
    · exact c_suL hf hp hb 1600 fuel 0 c2 cs l2 s2 a2 a3 (by rw [List.length_append]; omega) (by omega) (by omega) (by unfold fuel; omega)
    · rw [hF]
      exact c_suD rc a2 F o _
  · obtain ⟨s1, q1, q2, q3⟩ := hp.2 k q s hc hs
    refine ⟨s1, ?_, q2, q3⟩
    unfold f_X1_sum
    rw [q1, bnd, hF]
    exact c_suD rc q2.1 F o _
/-! both -/
theorem c_anD (rc : Int32 → ST → Option ST) {k q : Int} {s : ST} (h : CD k q s) (F : Nat) (o i : Int32) : f_X1_both_L7 rc (F + 1) o i s = some s := by
  have a1 := c_isWD h (Int32.ofInt 28)
  rw [f_X1_both_L7]
  by_cases e : (Int16.ofInt 1600).toInt32 ≤ i
  · rw [if_pos e]
  · rw [if_neg e]
    simp (disch := omega) only [a1, n_i8, n_i16, n_0, n_31, n_add, n_sub, n_mul, n_neg, n_div, n_rem, n_le_t, n_le_f, n_lt_t, n_lt_f, n_eq_t, n_eq_f, n_cl, n_gd, n_gdt, n_nz, Int.reduceToNat, Int.reduceAdd, Int.reduceSub, Int.reduceMul, Int.reduceNeg, Int.reduceLT, Int.reduceLE, Int.reduceEq, Int.reduceDiv, Int.reduceMod, Nat.reduceAdd, Nat.reduceMul, ↓reduceIte, u_eq, u_no, u_nk, u_ek, u_2, u_3, j_1, j_3, j_eq, j_no, j_nk, ltd, bnd]
theorem c_anL (hf : FQ f) {rc : Int32 → ST → Option ST} {o : Int32} {p : Cur → PR} (hp : IM T n m f (rc o) p) (hb : SB n p) : ∀ (k F : Nat) (i : Int) (c : Cur) (cs l : List Int) (s : ST), CC T n c s → CS m f (cs ++ l) s → ((cs ++ l).length : Int) ≤ c.1 → (k : Int) + i = 1600 → 0 ≤ i → k < F → ∃ s', f_X1_both_L7 rc F o (Int32.ofInt i) s = some s' ∧ OUT T n m f cs (andL T n p k l c) s s' := by
  intro k
  induction k with
  | zero =>
    intro F i c cs l s hc hs hl hi i0 hF
    obtain ⟨F, rfl⟩ : ∃ F', F = F' + 1 := ⟨F - 1, by omega⟩
    refine ⟨s, ?_, CPf.rf f s, RQ.ok ⟨hc, hs⟩⟩
    simp (disch := omega) only [f_X1_both_L7, n_i8, n_i16, n_0, n_31, n_add, n_sub, n_mul, n_neg, n_div, n_rem, n_le_t, n_le_f, n_lt_t, n_lt_f, n_eq_t, n_eq_f, n_cl, n_gd, n_gdt, n_nz, Int.reduceToNat, Int.reduceAdd, Int.reduceSub, Int.reduceMul, Int.reduceNeg, Int.reduceLT, Int.reduceLE, Int.reduceEq, Int.reduceDiv, Int.reduceMod, Nat.reduceAdd, Nat.reduceMul, ↓reduceIte, u_eq, u_no, u_nk, u_ek, u_2, u_3, j_1, j_3, j_eq, j_no, j_nk, ltd, bnd]
  | succ k ih =>
    intro F i c cs l s hc hs hl hi i0 hF
    obtain ⟨F, rfl⟩ : ∃ F', F = F' + 1 := ⟨F - 1, by omega⟩
    obtain ⟨F, rfl⟩ : ∃ F', F = F' + 1 := ⟨F - 1, by omega⟩
    have hn := hc.nb
    have a1 : f_X5_isWord (Int32.ofInt 28) s = _ := c_isW hc (k := 28) (by omega)
    cases e1 : isWL T n c (WDl 28) with
    | false =>
      rw [e1] at a1
      refine ⟨s, ?_, ?_⟩
      · simp (disch := omega) only [f_X1_both_L7, a1, bI_f, n_i8, n_i16, n_0, n_31, n_add, n_sub, n_mul, n_neg, n_div, n_rem, n_le_t, n_le_f, n_lt_t, n_lt_f, n_eq_t, n_eq_f, n_cl, n_gd, n_gdt, n_nz, Int.reduceToNat, Int.reduceAdd, Int.reduceSub, Int.reduceMul, Int.reduceNeg, Int.reduceLT, Int.reduceLE, Int.reduceEq, Int.reduceDiv, Int.reduceMod, Nat.reduceAdd, Nat.reduceMul, ↓reduceIte, bnd]
      · unfold andL
        rw [e1, if_neg (by decide)]
        exact ⟨CPf.rf f s, hc, hs⟩
    | true =>
      rw [e1] at a1
      have hW := isWL_W e1
      obtain ⟨s1, q1, q2, q3, q4⟩ := c_stepS hf hc hs
      rw [nx_W hW] at q2
      have hsb := wd_b hW hn.1 hn.2.1
      have etc : Int32.ofInt (-10) = Int32.ofInt (toC 10) := by decide
      obtain ⟨s2, x1, x2, x3⟩ := hp.1 (nxW T n c) (cs ++ l) s1 q2 q3 (by omega)
      have hr := hb (nxW T n c) (by omega) hsb.2
      have e0 : f_X1_both_L7 rc (F + 1 + 1) o (Int32.ofInt i) s = (f_X1_put (Int32.ofInt (-10)) s2).bind (fun q7 => f_X1_both_L7 rc (F + 1) o (Int32.ofInt (i + 1)) q7) := by
        rw [f_X1_both_L7]
        simp (disch := omega) only [a1, q1, x1, bI_t, n_i8, n_i16, n_0, n_31, n_add, n_sub, n_mul, n_neg, n_div, n_rem, n_le_t, n_le_f, n_lt_t, n_lt_f, n_eq_t, n_eq_f, n_cl, n_gd, n_gdt, n_nz, Int.reduceToNat, Int.reduceAdd, Int.reduceSub, Int.reduceMul, Int.reduceNeg, Int.reduceLT, Int.reduceLE, Int.reduceEq, Int.reduceDiv, Int.reduceMod, Nat.reduceAdd, Nat.reduceMul, ↓reduceIte, bnd]
      rw [e0]
      unfold andL
      rw [if_pos e1]
      cases e : p (nxW T n c) with
      | error x =>
        rw [e] at x3
        obtain ⟨u1, u2⟩ := (x3 : CD x.1 x.2 s2 ∧ DS f s2)
        obtain ⟨s3, w1, w2, w3⟩ := c_putE hf u1 u2 (Int32.ofInt (-10))
        refine ⟨s3, ?_, (q4.tr x2).tr w3, RQ.er w2⟩
        rw [w1, bnd]
        exact c_anD rc w2.1 F o _
      | ok a =>
        rw [e] at x3 hr
        obtain ⟨r1, r2, r3⟩ := (hr : (nxW T n c).1 + a.1.length ≤ a.2.1 ∧ (nxW T n c).1 < a.2.1 ∧ a.2.1 ≤ n)
        obtain ⟨u1, u2⟩ := (x3 : CC T n a.2 s2 ∧ CS m f (cs ++ l ++ a.1) s2)
        have hlen : ((cs ++ l ++ a.1).length : Int) < a.2.1 := by rw [List.length_append]; omega
        obtain ⟨s3, w1, w2, w3, w4⟩ := c_putC hf u1 u2 (by omega) 10
        have eas : cs ++ l ++ a.1 ++ [10] = cs ++ (l ++ a.1 ++ [10]) := by rw [List.append_assoc, List.append_assoc, List.append_assoc]
        rw [eas] at w3
        obtain ⟨s', v1, v2⟩ := ih (F + 1) (i + 1) a.2 cs (l ++ a.1 ++ [10]) s3 w2 w3 (by rw [← eas, List.length_append, List.length_singleton]; omega) (by omega) (by omega) (by omega)
        refine ⟨s', ?_, v2.tr ((q4.tr x2).tr w4)⟩
        rw [etc, w1, bnd]
        exact v1
theorem c_and (hf : FQ f) {rc : Int32 → ST → Option ST} {o : Int32} {p : Cur → PR} (hp : IM T n m f (rc o) p) (hb : SB n p) : IM T n m f (f_X1_both rc o) (andD T n p) := by
  obtain ⟨F, hF⟩ : ∃ F, fuel = F + 1 := ⟨99999, rfl⟩
  refine ⟨fun c cs s hc hs hl => ?_, fun k q s hc hs => ?_⟩
  · refine IM.sq hp hb hc hs hl (fun l2 c2 s2 a1 a2 a3 a4 a5 a6 => ?_) (fun k' q s2 a1 a2 a3 => ⟨s2, ?_, ⟨a2, a3⟩, CPf.rf f s2⟩)
    · exact c_anL hf hp hb 1600 fuel 0 c2 cs l2 s2 a2 a3 (by rw [List.length_append]; omega) (by omega) (by omega) (by unfold fuel; omega)
    · rw [hF]
      exact c_anD rc a2 F o _
  · obtain ⟨s1, q1, q2, q3⟩ := hp.2 k q s hc hs
    refine ⟨s1, ?_, q2, q3⟩
    unfold f_X1_both
    rw [q1, bnd, hF]
    exact c_anD rc q2.1 F o _
/-! test -/
theorem c_orD (rc : Int32 → ST → Option ST) {k q : Int} {s : ST} (h : CD k q s) (F : Nat) (o i : Int32) : f_X1_test_L7 rc (F + 1) o i s = some s := by
  have a1 := c_isWD h (Int32.ofInt 27)
  rw [f_X1_test_L7]
  by_cases e : (Int16.ofInt 1600).toInt32 ≤ i
  · rw [if_pos e]
  · rw [if_neg e]
    simp (disch := omega) only [a1, n_i8, n_i16, n_0, n_31, n_add, n_sub, n_mul, n_neg, n_div, n_rem, n_le_t, n_le_f, n_lt_t, n_lt_f, n_eq_t, n_eq_f, n_cl, n_gd, n_gdt, n_nz, Int.reduceToNat, Int.reduceAdd, Int.reduceSub, Int.reduceMul, Int.reduceNeg, Int.reduceLT, Int.reduceLE, Int.reduceEq, Int.reduceDiv, Int.reduceMod, Nat.reduceAdd, Nat.reduceMul, ↓reduceIte, u_eq, u_no, u_nk, u_ek, u_2, u_3, j_1, j_3, j_eq, j_no, j_nk, ltd, bnd]
theorem c_orL (hf : FQ f) {rc : Int32 → ST → Option ST} {o : Int32} {p : Cur → PR} (hp : IM T n m f (rc o) p) (hb : SB n p) : ∀ (k F : Nat) (i : Int) (c : Cur) (cs l : List Int) (s : ST), CC T n c s → CS m f (cs ++ l) s → ((cs ++ l).length : Int) ≤ c.1 → (k : Int) + i = 1600 → 0 ≤ i → k < F → ∃ s', f_X1_test_L7 rc F o (Int32.ofInt i) s = some s' ∧ OUT T n m f cs (orL T n p k l c) s s' := by
  intro k
  induction k with
  | zero =>
    intro F i c cs l s hc hs hl hi i0 hF
    obtain ⟨F, rfl⟩ : ∃ F', F = F' + 1 := ⟨F - 1, by omega⟩
    refine ⟨s, ?_, CPf.rf f s, RQ.ok ⟨hc, hs⟩⟩
    simp (disch := omega) only [f_X1_test_L7, n_i8, n_i16, n_0, n_31, n_add, n_sub, n_mul, n_neg, n_div, n_rem, n_le_t, n_le_f, n_lt_t, n_lt_f, n_eq_t, n_eq_f, n_cl, n_gd, n_gdt, n_nz, Int.reduceToNat, Int.reduceAdd, Int.reduceSub, Int.reduceMul, Int.reduceNeg, Int.reduceLT, Int.reduceLE, Int.reduceEq, Int.reduceDiv, Int.reduceMod, Nat.reduceAdd, Nat.reduceMul, ↓reduceIte, u_eq, u_no, u_nk, u_ek, u_2, u_3, j_1, j_3, j_eq, j_no, j_nk, ltd, bnd]
  | succ k ih =>
    intro F i c cs l s hc hs hl hi i0 hF
    obtain ⟨F, rfl⟩ : ∃ F', F = F' + 1 := ⟨F - 1, by omega⟩
    obtain ⟨F, rfl⟩ : ∃ F', F = F' + 1 := ⟨F - 1, by omega⟩
    have hn := hc.nb
    have a1 : f_X5_isWord (Int32.ofInt 27) s = _ := c_isW hc (k := 27) (by omega)
    cases e1 : isWL T n c (WDl 27) with
    | false =>
      rw [e1] at a1
      refine ⟨s, ?_, ?_⟩
      · simp (disch := omega) only [f_X1_test_L7, a1, bI_f, n_i8, n_i16, n_0, n_31, n_add, n_sub, n_mul, n_neg, n_div, n_rem, n_le_t, n_le_f, n_lt_t, n_lt_f, n_eq_t, n_eq_f, n_cl, n_gd, n_gdt, n_nz, Int.reduceToNat, Int.reduceAdd, Int.reduceSub, Int.reduceMul, Int.reduceNeg, Int.reduceLT, Int.reduceLE, Int.reduceEq, Int.reduceDiv, Int.reduceMod, Nat.reduceAdd, Nat.reduceMul, ↓reduceIte, bnd]
      · unfold orL
        rw [e1, if_neg (by decide)]
        exact ⟨CPf.rf f s, hc, hs⟩
    | true =>
      rw [e1] at a1
      have hW := isWL_W e1
      obtain ⟨s1, q1, q2, q3, q4⟩ := c_stepS hf hc hs
      rw [nx_W hW] at q2
      have hsb := wd_b hW hn.1 hn.2.1
      have etc : Int32.ofInt (-11) = Int32.ofInt (toC 11) := by decide
      obtain ⟨s2, x1, x2, x3⟩ := hp.1 (nxW T n c) (cs ++ l) s1 q2 q3 (by omega)
      have hr := hb (nxW T n c) (by omega) hsb.2
      have e0 : f_X1_test_L7 rc (F + 1 + 1) o (Int32.ofInt i) s = (f_X1_put (Int32.ofInt (-11)) s2).bind (fun q7 => f_X1_test_L7 rc (F + 1) o (Int32.ofInt (i + 1)) q7) := by
        rw [f_X1_test_L7]
        simp (disch := omega) only [a1, q1, x1, bI_t, n_i8, n_i16, n_0, n_31, n_add, n_sub, n_mul, n_neg, n_div, n_rem, n_le_t, n_le_f, n_lt_t, n_lt_f, n_eq_t, n_eq_f, n_cl, n_gd, n_gdt, n_nz, Int.reduceToNat, Int.reduceAdd, Int.reduceSub, Int.reduceMul, Int.reduceNeg, Int.reduceLT, Int.reduceLE, Int.reduceEq, Int.reduceDiv, Int.reduceMod, Nat.reduceAdd, Nat.reduceMul, ↓reduceIte, bnd]
      rw [e0]
      unfold orL
      rw [if_pos e1]
      cases e : p (nxW T n c) with
      | error x =>
        rw [e] at x3
        obtain ⟨u1, u2⟩ := (x3 : CD x.1 x.2 s2 ∧ DS f s2)
        obtain ⟨s3, w1, w2, w3⟩ := c_putE hf u1 u2 (Int32.ofInt (-11))
        refine ⟨s3, ?_, (q4.tr x2).tr w3, RQ.er w2⟩
        rw [w1, bnd]
        exact c_orD rc w2.1 F o _
      | ok a =>
        rw [e] at x3 hr
        obtain ⟨r1, r2, r3⟩ := (hr : (nxW T n c).1 + a.1.length ≤ a.2.1 ∧ (nxW T n c).1 < a.2.1 ∧ a.2.1 ≤ n)
        obtain ⟨u1, u2⟩ := (x3 : CC T n a.2 s2 ∧ CS m f (cs ++ l ++ a.1) s2)
        have hlen : ((cs ++ l ++ a.1).length : Int) < a.2.1 := by rw [List.length_append]; omega
        obtain ⟨s3, w1, w2, w3, w4⟩ := c_putC hf u1 u2 (by omega) 11
        have eas : cs ++ l ++ a.1 ++ [11] = cs ++ (l ++ a.1 ++ [11]) := by rw [List.append_assoc, List.append_assoc, List.append_assoc]
        rw [eas] at w3
        obtain ⟨s', v1, v2⟩ := ih (F + 1) (i + 1) a.2 cs (l ++ a.1 ++ [11]) s3 w2 w3 (by rw [← eas, List.length_append, List.length_singleton]; omega) (by omega) (by omega) (by omega)
        refine ⟨s', ?_, v2.tr ((q4.tr x2).tr w4)⟩
        rw [etc, w1, bnd]
        exact v1
theorem c_or (hf : FQ f) {rc : Int32 → ST → Option ST} {o : Int32} {p : Cur → PR} (hp : IM T n m f (rc o) p) (hb : SB n p) : IM T n m f (f_X1_test rc o) (orD T n p) := by
  obtain ⟨F, hF⟩ : ∃ F, fuel = F + 1 := ⟨99999, rfl⟩
  refine ⟨fun c cs s hc hs hl => ?_, fun k q s hc hs => ?_⟩
  · refine IM.sq hp hb hc hs hl (fun l2 c2 s2 a1 a2 a3 a4 a5 a6 => ?_) (fun k' q s2 a1 a2 a3 => ⟨s2, ?_, ⟨a2, a3⟩, CPf.rf f s2⟩)
    · exact c_orL hf hp hb 1600 fuel 0 c2 cs l2 s2 a2 a3 (by rw [List.length_append]; omega) (by omega) (by omega) (by unfold fuel; omega)
    · rw [hF]
      exact c_orD rc a2 F o _
  · obtain ⟨s1, q1, q2, q3⟩ := hp.2 k q s hc hs
    refine ⟨s1, ?_, q2, q3⟩
    unfold f_X1_test
    rw [q1, bnd, hF]
    exact c_orD rc q2.1 F o _
theorem c_opens (hf : FQ f) {o : Int} {c : Cur} {cs : List Int} {s : ST} (hc : CC T n c s) (h : CS m f cs s) (hl : (cs.length : Int) ≤ 1600) (o0 : 0 ≤ o) (o6 : o ≤ 6) : (o < 6 → ∃ s', f_X1_opens (Int32.ofInt o) s = some (Int32.ofInt 1, s') ∧ CC T n (nx T n c) s' ∧ CS m f cs s' ∧ CPf f s s') ∧ (o = 6 → ∃ s', f_X1_opens (Int32.ofInt o) s = some (Int32.ofInt 0, s') ∧ (CD 4 (frm T n c) s' ∧ DS f s') ∧ CPf f s s') := by
  constructor
  · intro ho
    obtain ⟨s1, q1, q2, q3, q4⟩ := c_stepS hf hc h
    refine ⟨s1, ?_, q2, q3, q4⟩
    simp (disch := omega) only [f_X1_opens, q1, n_i8, n_i16, n_0, n_31, n_add, n_sub, n_mul, n_neg, n_div, n_rem, n_le_t, n_le_f, n_lt_t, n_lt_f, n_eq_t, n_eq_f, n_cl, n_gd, n_gdt, n_nz, Int.reduceToNat, Int.reduceAdd, Int.reduceSub, Int.reduceMul, Int.reduceNeg, Int.reduceLT, Int.reduceLE, Int.reduceEq, Int.reduceDiv, Int.reduceMod, Nat.reduceAdd, Nat.reduceMul, ↓reduceIte, bnd]
  · intro ho
    obtain ⟨s1, q1, q2, q3⟩ := c_fail (k := 4) (p := frm T n c) hc.2.2.2.2.2.2.1 (by omega) (by omega)
    refine ⟨s1, ?_, ⟨q2, DS_fr hf (h.ds hl) q3⟩, q3.cp f⟩
    have h1 := hc.2.2.1
    simp (disch := omega) only [f_X1_opens, h1, q1, n_i8, n_i16, n_0, n_31, n_add, n_sub, n_mul, n_neg, n_div, n_rem, n_le_t, n_le_f, n_lt_t, n_lt_f, n_eq_t, n_eq_f, n_cl, n_gd, n_gdt, n_nz, Int.reduceToNat, Int.reduceAdd, Int.reduceSub, Int.reduceMul, Int.reduceNeg, Int.reduceLT, Int.reduceLE, Int.reduceEq, Int.reduceDiv, Int.reduceMod, Nat.reduceAdd, Nat.reduceMul, ↓reduceIte, bnd]
theorem c_ffS (hf : FQ f) {c : Cur} {cs : List Int} {s : ST} (hc : CC T n c s) (h : CS m f cs s) (hl : (cs.length : Int) ≤ 1600) : ∃ s', f_X5_failForm s = some s' ∧ (CD 1 (frm T n c) s' ∧ DS f s') ∧ CPf f s s' := by
  obtain ⟨s1, q1, q2, q3⟩ := c_ff hc
  exact ⟨s1, q1, ⟨q2, DS_fr hf (h.ds hl) q3⟩, q3.cp f⟩
/-- a sign that must come -/
theorem c_clS (hf : FQ f) {ch : Int} (c0 : 0 ≤ ch) (c1 : ch ≤ 255) (hv : sv ch = 3) {c : Cur} {cs : List Int} {s : ST} (hc : CC T n c s) (h : CS m f cs s) (hl : (cs.length : Int) ≤ 1600) : ∃ s', f_X5_takeSign (Int32.ofInt ch) s = some s' ∧ CPf f s s' ∧ (isSg T n c ch = true → CC T n (nxS T n c) s' ∧ CS m f cs s') ∧ (isSg T n c ch = false → CD 1 (frm T n c) s' ∧ DS f s') := by
  obtain ⟨s1, q1, q2, q3, q4⟩ := c_tS hc c0 c1 hv
  exact ⟨s1, q1, q4.cp f, fun e => ⟨q2 e, CS_fr hf h q4⟩, fun e => ⟨q3 e, DS_fr hf (h.ds hl) q4⟩⟩
