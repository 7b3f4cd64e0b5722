/-! L3: the reference reads a board -/
variable {T : Int → Int} {n : Int} {B : Brd} {G : Gam} {N : Int → Int → List Int}
theorem RD_H {l : List Int} {s s' : ST} (h : RD B G N s) (hl : (l.length : Int) ≤ 1600) (hf : ∀ a k : Nat, 101 ≤ a ∧ a ≤ 108 → s'.1 a k = s.1 a k) (h2 : s'.2.1 = s.2.1) (c1 : s'.1 109 0 = Int32.ofInt 0) (c2 : s'.1 110 0 = Int32.ofInt (l.length : Int)) (c3 : s'.1 65 56 = Int32.ofInt (l.length : Int)) (c4 : ∀ i : Nat, i < l.length → s'.1 111 i = Int32.ofInt (l.getD i 0)) : RD (setH B l) G N s' := by
  obtain ⟨n1, n2⟩ := setH_n (B := B) (l := l)
  have z : ∀ (i : Nat) (j : Int), ¬ i = 11 → ¬ (i = 0 ∧ j = 7) → setH B l i j = B i j := fun i j h1 h2 => setH_o h1 h2
  have zK : bK (setH B l) = bK B := z 0 2 (by omega) (by omega)
  have zM : bM (setH B l) = bM B := z 0 3 (by omega) (by omega)
  have zF : bF (setH B l) = bF B := z 0 4 (by omega) (by omega)
  have zc : ∀ j : Int, cnt (setH B l) j = cnt B j := fun j => by unfold cnt; rw [zK, zM, zF]
  obtain ⟨⟨⟨a1, a2, a3⟩, ⟨a4, a5, a6, a7⟩, a8, a9⟩, b1, b2, b3, b4, b5⟩ := h
  refine ⟨⟨⟨by rw [zK]; exact (hf _ _ (by omega)).trans a1, by rw [zM]; exact (hf _ _ (by omega)).trans a2, by rw [zF]; exact (hf _ _ (by omega)).trans a3⟩, ⟨(hf _ _ (by omega)).trans a4, (hf _ _ (by omega)).trans a5, (hf _ _ (by omega)).trans a6, (hf _ _ (by omega)).trans a7⟩, (hf _ _ (by omega)).trans a8, (hf _ _ (by omega)).trans a9⟩, fun k k0 k1 => ?_, fun k k0 k1 => ?_, fun k k0 k1 => ?_, Or.inr ⟨by rw [n1]; omega, by rw [n1]; exact hl, c1, by rw [n1]; exact c2, by rw [n1]; exact c3, fun i i0 i1 => ?_⟩, fun k w x1 x2 x3 x4 => ?_⟩
  · rw [zK] at k1
    obtain ⟨d1, d2, d3, d4⟩ := b1 k k0 k1
    exact ⟨(hf _ _ (by omega)).trans d1, (hf _ _ (by omega)).trans d2, (hf _ _ (by omega)).trans d3, (hf _ _ (by omega)).trans d4⟩
  · rw [zM] at k1
    obtain ⟨d1, d2, d3, d4⟩ := b2 k k0 k1
    exact ⟨(hf _ _ (by omega)).trans d1, (hf _ _ (by omega)).trans d2, (hf _ _ (by omega)).trans d3, (hf _ _ (by omega)).trans d4⟩
  · rw [zF] at k1
    obtain ⟨d1, d2, d3⟩ := b3 k k0 k1
    exact ⟨(hf _ _ (by omega)).trans d1, (hf _ _ (by omega)).trans d2, (hf _ _ (by omega)).trans d3⟩
  · rw [n1] at i1
    rw [n2]
    exact c4 i.toNat (by omega)
  · rw [h2]
    exact b5 k w x1 x2 x3 (by rw [zc] at x4; exact x4)
theorem m_cpy_L {l : List Int} (hl : (l.length : Int) ≤ 1600) : ∀ (m F : Nat) (i : Nat) (s : ST), s.1 65 111 = Int32.ofInt (l.length : Int) → s.1 65 56 = Int32.ofInt (i : Int) → (∀ j : Nat, j < l.length → s.1 146 j = Int32.ofInt (l.getD j 0)) → (∀ j : Nat, j < i → s.1 111 j = Int32.ofInt (l.getD j 0)) → i + m = l.length → m < F → ∃ s', f_X10_harmTold_L80 f_X10_harmTold_j119 F (Int32.ofInt (i : Int)) s = f_X10_harmTold_j119 s' ∧ s'.1 65 56 = Int32.ofInt (l.length : Int) ∧ (∀ j : Nat, j < l.length → s'.1 111 j = Int32.ofInt (l.getD j 0)) ∧ (∀ o k : Nat, ¬ (o = 65 ∧ k = 56) → ¬ (o = 111 ∧ k < 1600) → s'.1 o k = s.1 o k) ∧ s'.2 = s.2 := by
  intro m
  induction m with
  | zero =>
    intro F i s h1 h2 h3 h4 hi hF
    obtain ⟨F, rfl⟩ : ∃ F', F = F' + 1 := ⟨F - 1, by omega⟩
    have e : i = l.length := by omega
    subst e
    refine ⟨s, ?_, h2, h4, fun _ _ _ _ => rfl, rfl⟩
    simp (disch := omega) only [f_X10_harmTold_L80, h1, n_i8, n_i16, n_0, n_31, n_add, n_sub, n_mul, n_neg, n_div, n_rem, n_le_t, n_le_f, n_lt_t, n_lt_f, n_eq_t, n_eq_f, n_cl, n_gd, n_gdt, n_nz, Int.reduceToNat, Int.reduceAdd, Int.reduceSub, Int.reduceMul, Int.reduceNeg, Int.reduceLT, Int.reduceLE, Int.reduceEq, Int.reduceDiv, Int.reduceMod, Nat.reduceAdd, Nat.reduceMul, ↓reduceIte]
  | succ m ih =>
    intro F i s h1 h2 h3 h4 hi hF
    obtain ⟨F, rfl⟩ : ∃ F', F = F' + 1 := ⟨F - 1, by omega⟩
    have hv := h3 i (by omega)
    have ecl : (Int32.ofInt (i : Int)).toNatClampNeg = i := by rw [n_cl (by omega) (by omega)]; omega
    have hfr : ∀ o k : Nat, ¬ (o = 65 ∧ k = 56) → ¬ (o = 111 ∧ k = i) → (uI (uI s 111 i (Int32.ofInt (l.getD i 0))) 65 56 (Int32.ofInt ((i : Int) + 1))).1 o k = s.1 o k := fun o k x y => by (simp only [ua, ja, u_2, u_3, j_1, j_3]; (repeat' split) <;> first | rfl | (exfalso; omega))
    obtain ⟨s', q1, q2, q3, q4, q5⟩ := ih F (i + 1) (uI (uI s 111 i (Int32.ofInt (l.getD i 0))) 65 56 (Int32.ofInt ((i : Int) + 1))) ((hfr 65 111 (by omega) (by omega)).trans h1) (by rw [u_eq]; rfl) (fun j hj => (hfr 146 j (by omega) (by omega)).trans (h3 j hj)) (fun j hj => by
      by_cases e : j = i
      · subst e; rw [u_no (by omega), u_eq]
      · exact (hfr 111 j (by omega) (by omega)).trans (h4 j (by omega))) (by omega) (by omega)
    refine ⟨s', ?_, q2, q3, fun o k x y => (q4 o k x y).trans (hfr o k x (by omega)), q5⟩
    rw [← q1, f_X10_harmTold_L80, show ((i + 1 : Nat) : Int) = (i : Int) + 1 by omega]
    have egd : ∀ {α : Type} {y : Option α}, gd (ib (Int32.ofInt (i : Int)) 1700) y = y := by intro α y; exact n_gd (by omega) (by omega) (by omega)
    have egd2 : ∀ {α : Type} {y : Option α}, gd (ib (Int32.ofInt (i : Int)) 3200) y = y := by intro α y; exact n_gd (by omega) (by omega) (by omega)
    simp (disch := omega) only [h1, h2, hv, ecl, egd, egd2, n_i8, n_i16, n_0, n_31, n_add, n_sub, n_mul, n_neg, n_div, n_rem, n_le_t, n_le_f, n_lt_t, n_lt_f, n_eq_t, n_eq_f, n_cl, n_gd, n_gdt, n_nz, Int.reduceToNat, Int.reduceAdd, Int.reduceSub, Int.reduceMul, Int.reduceNeg, Int.reduceLT, Int.reduceLE, Int.reduceEq, Int.reduceDiv, Int.reduceMod, Nat.reduceAdd, Nat.reduceMul, ↓reduceIte, u_eq, u_no, u_nk, u_ek, u_2, u_3, j_1, j_3, j_eq, j_no, j_nk, ltd, bnd]
theorem sumT_l {m : Bool} {d : Nat} {c : Cur} {a : List Int × Cur} (h : sumT T n m d c = .ok a) (c0 : 0 ≤ c.1) (cn : c.1 ≤ n) : c.1 + (a.1.length : Int) ≤ a.2.1 ∧ c.1 < a.2.1 ∧ a.2.1 ≤ n := by
  have hr := sumT_b (T := T) (n := n) (m := m) d c c0 cn
  rw [h] at hr
  exact hr
theorem m_harmT {c : Cur} {s : ST} {bg : Int} (hV : DV B G N) (hD : RD B G N s) (hc : RC T n c s) (hw : WDS s) : ∃ s', f_X10_harmTold (Int32.ofInt bg) s = some s' ∧ BFr s s' ∧ (¬ bHm B = -1 → RB 5 bg s') ∧ (bHm B = -1 → RQ (sumT T n false 6 c) (fun a => RD (setH B a.1) G N s' ∧ RC T n a.2 s' ∧ WDS s') (fun k p => RB k p s')) := by
  have h5 := hc.b.1
  have hcb := hc.b.2.1
  have e0 : (Int32.ofInt 0).toNatClampNeg = 0 := rfl
  rcases hD.2.2.2.2.1 with ⟨d1, d2, d3⟩ | ⟨d1, d2, d3, -⟩
  · have hf : ∀ o k : Nat, ¬ (o = 65 ∧ (k = 59 ∨ (111 ≤ k ∧ k ≤ 115))) → (uI (uI (uI (uI (uI s 65 59 (Int32.ofInt 1)) 65 111 (Int32.ofInt 0)) 65 113 (Int32.ofInt 0)) 65 114 (Int32.ofInt 0)) 65 115 (Int32.ofInt 0)).1 o k = s.1 o k := fun o k x => by (simp only [ua, ja, u_2, u_3, j_1, j_3]; (repeat' split) <;> first | rfl | (exfalso; omega))
    have g59 : (uI (uI (uI (uI (uI s 65 59 (Int32.ofInt 1)) 65 111 (Int32.ofInt 0)) 65 113 (Int32.ofInt 0)) 65 114 (Int32.ofInt 0)) 65 115 (Int32.ofInt 0)).1 65 59 = Int32.ofInt 1 := by rw [u_nk (by omega), u_nk (by omega), u_nk (by omega), u_nk (by omega), u_eq]
    have g111 : (uI (uI (uI (uI (uI s 65 59 (Int32.ofInt 1)) 65 111 (Int32.ofInt 0)) 65 113 (Int32.ofInt 0)) 65 114 (Int32.ofInt 0)) 65 115 (Int32.ofInt 0)).1 65 111 = Int32.ofInt 0 := by rw [u_nk (by omega), u_nk (by omega), u_nk (by omega), u_eq]
    have g113 : (uI (uI (uI (uI (uI s 65 59 (Int32.ofInt 1)) 65 111 (Int32.ofInt 0)) 65 113 (Int32.ofInt 0)) 65 114 (Int32.ofInt 0)) 65 115 (Int32.ofInt 0)).1 65 113 = Int32.ofInt 0 := by rw [u_nk (by omega), u_nk (by omega), u_eq]
    have g114 : (uI (uI (uI (uI (uI s 65 59 (Int32.ofInt 1)) 65 111 (Int32.ofInt 0)) 65 113 (Int32.ofInt 0)) 65 114 (Int32.ofInt 0)) 65 115 (Int32.ofInt 0)).1 65 114 = Int32.ofInt 0 := by rw [u_nk (by omega), u_eq]
    have g115 : (uI (uI (uI (uI (uI s 65 59 (Int32.ofInt 1)) 65 111 (Int32.ofInt 0)) 65 113 (Int32.ofInt 0)) 65 114 (Int32.ofInt 0)) 65 115 (Int32.ofInt 0)).1 65 115 = Int32.ofInt 0 := u_eq _ _ _ _
    have ef : f_X10_harmTold (Int32.ofInt bg) s = (f_X10_qSums (uI (uI (uI (uI (uI s 65 59 (Int32.ofInt 1)) 65 111 (Int32.ofInt 0)) 65 113 (Int32.ofInt 0)) 65 114 (Int32.ofInt 0)) 65 115 (Int32.ofInt 0))).bind (fun q7 => (if (q7.1 65 5) = 0 then gd (ib (Int32.ofInt 0) 2) (lt (uI q7 109 (Int32.ofInt 0).toNatClampNeg (q7.1 65 56)) (fun s10 => (f_X10_harmTold_L80 f_X10_harmTold_j119 fuel) (Int32.ofInt 0) s10)) else some q7)) := by
      unfold f_X10_harmTold f_X10_harmTold_j23
      rw [if_pos (show s.1 65 5 = 0 from h5), n_gd (by omega) (by omega) (by omega), e0, if_pos d2, if_pos (show s.1 65 5 = 0 from h5), ltd]
    have h2 : (uI (uI (uI (uI (uI s 65 59 (Int32.ofInt 1)) 65 111 (Int32.ofInt 0)) 65 113 (Int32.ofInt 0)) 65 114 (Int32.ofInt 0)) 65 115 (Int32.ofInt 0)).2 = s.2 := rfl
    generalize (uI (uI (uI (uI (uI s 65 59 (Int32.ofInt 1)) 65 111 (Int32.ofInt 0)) 65 113 (Int32.ofInt 0)) 65 114 (Int32.ofInt 0)) 65 115 (Int32.ofInt 0)) = s1 at *
    have hB1 : BFr s s1 := ⟨fun o k x => hf o k (by unfold LO at x; omega), fun o k _ => by rw [h2], by rw [h2]⟩
    have hM : MZ T n false 0 c [] [] 0 s1 := by
      refine ⟨RC_fr hc (hf 65 2 (by omega)) (hf 65 3 (by omega)) (hf 65 4 (by omega)) (hf 65 5 (by omega)) (hf 65 6 (by omega)) (fun k => hf 66 k (by omega)), WDS_fr hw (fun o k ho => hf o k (by omega)), ⟨⟨g111, fun i hi => by cases hi⟩, ⟨g113, fun i hi => by cases hi⟩, ⟨g114, by omega, by omega⟩, fun v hv => by cases hv⟩, ⟨g59, g115, by omega, by show (0 : Int) ≤ 0; omega⟩, ?_⟩
      show (0 : Int) + 0 ≤ c.1
      omega
    obtain ⟨s2, q1, q2, q3⟩ := m_qSums hM (d := 6) (by omega) (Or.inl rfl)
    have hD2 : RD B G N s2 := RD_fr hD (fun o k x => (q2.1 o k (by omega) (by omega) (by omega)).trans (hf o k (by omega))) (by rw [q2.2, h2])
    rw [ef, q1, bnd]
    cases eS : sumT T n false 6 c with
    | error x =>
      rw [eS] at q3
      have q3 : RB x.1 x.2 s2 := q3.1
      exact ⟨s2, if_neg q3.ne, hB1.tr q2.b, fun y => absurd d1 y, fun _ => q3⟩
    | ok a =>
      rw [eS] at q3
      have q3 : MZ T n false 0 a.2 ([] ++ a.1) [] 0 s2 := q3
      rw [List.nil_append] at q3
      obtain ⟨l1, l2, l3⟩ := sumT_l eS (by omega) (by omega)
      have h52 := q3.1.b.1
      have h56 : s2.1 65 56 = Int32.ofInt 0 := (q2.1 65 56 (by omega) (by omega) (by omega)).trans ((hf 65 56 (by omega)).trans d3)
      rw [if_pos (show s2.1 65 5 = 0 from h52), n_gd (by omega) (by omega) (by omega), ltd, e0, h56]
      have hf3 : ∀ o k : Nat, ¬ (o = 109 ∧ k = 0) → (uI s2 109 0 (Int32.ofInt 0)).1 o k = s2.1 o k := fun o k x => by (simp only [ua, ja, u_2, u_3, j_1, j_3]; (repeat' split) <;> first | rfl | (exfalso; omega))
      obtain ⟨s4, w1, w2, w3, w4, w5⟩ := m_cpy_L (l := a.1) (by omega) a.1.length fuel 0 (uI s2 109 0 (Int32.ofInt 0)) ((hf3 65 111 (by omega)).trans q3.2.2.1.1.1) ((hf3 65 56 (by omega)).trans h56) (fun j hj => (hf3 146 j (by omega)).trans (q3.2.2.1.1.2 j hj)) (fun j hj => by cases hj) (by omega) (by unfold fuel; omega)
      have hf5 : ∀ o k : Nat, ¬ (o = 110 ∧ k = 0) → (uI s4 110 0 (s4.1 65 56)).1 o k = s4.1 o k := fun o k x => by (simp only [ua, ja, u_2, u_3, j_1, j_3]; (repeat' split) <;> first | rfl | (exfalso; omega))
      have hfA : ∀ o k : Nat, ¬ (o = 110 ∧ k = 0) → ¬ (o = 109 ∧ k = 0) → ¬ (o = 65 ∧ k = 56) → ¬ (o = 111 ∧ k < 1600) → (uI s4 110 0 (s4.1 65 56)).1 o k = s2.1 o k := fun o k x y z u => (hf5 o k x).trans ((w4 o k z u).trans (hf3 o k y))
      have hL2 : (uI s4 110 0 (s4.1 65 56)).2 = s2.2 := w5
      refine ⟨uI s4 110 0 (s4.1 65 56), ?_, (hB1.tr q2.b).tr ⟨fun o k x => hfA o k (by unfold LO at x; omega) (by unfold LO at x; omega) (by unfold LO at x; omega) (by unfold LO at x; omega), fun o k _ => by rw [hL2], by rw [hL2]⟩, fun y => absurd d1 y, fun _ => ⟨RD_H hD2 (by omega) (fun o k x => hfA o k (by omega) (by omega) (by omega) (by omega)) (by rw [hL2]) ?_ ?_ ?_ (fun j hj => (hf5 111 j (by omega)).trans (w3 j hj)), RC_fr q3.1 (hfA 65 2 (by omega) (by omega) (by omega) (by omega)) (hfA 65 3 (by omega) (by omega) (by omega) (by omega)) (hfA 65 4 (by omega) (by omega) (by omega) (by omega)) (hfA 65 5 (by omega) (by omega) (by omega) (by omega)) (hfA 65 6 (by omega) (by omega) (by omega) (by omega)) (fun k => hfA 66 k (by omega) (by omega) (by omega) (by omega)), WDS_fr q3.2.1 (fun o k ho => hfA o k (by omega) (by omega) (by omega) (by omega))⟩⟩
      · rw [show (Int32.ofInt 0) = Int32.ofInt ((0 : Nat) : Int) from rfl]
        refine Eq.trans w1 ?_
        unfold f_X10_harmTold_j119
        rw [n_gd (by omega) (by omega) (by omega), ltd, e0]
      · rw [hf5 109 0 (by omega), w4 109 0 (by omega) (by omega), u_eq]
      · rw [u_eq, w2]
      · rw [hf5 65 56 (by omega), w2]
  · have hne : ¬ s.1 109 0 = Int32.ofInt (-1) := by
      rw [d3, n_eq (by omega) (by omega) (by omega) (by omega)]
      omega
    obtain ⟨s', q1, q2, q3⟩ := m_fail (k := 5) (p := bg) h5 (by omega) (by omega)
    refine ⟨s', ?_, q3.b, fun _ => q2, fun y => by omega⟩
    unfold f_X10_harmTold
    rw [if_pos (show s.1 65 5 = 0 from h5), n_gd (by omega) (by omega) (by omega), e0, if_neg hne, q1, bnd]
    unfold f_X10_harmTold_j23
    rw [if_neg q2.ne]
/-! one statement -/
def RDD (T : Int → Int) (n : Int) (r : EX (DRF × Cur)) (s : ST) : Prop := RQ r (fun a => (DV a.1.1 a.1.2.1 a.1.2.2 ∧ RD a.1.1 a.1.2.1 a.1.2.2 s) ∧ RC T n a.2 s ∧ WDS s) (fun k p => RB k p s)
theorem RD_S {j v : Int} {s s' : ST} (h : RD B G N s) (hj : j = 5 ∨ j = 6) (hf : ∀ a k : Nat, (101 ≤ a ∧ a ≤ 111) ∨ (a = 65 ∧ k = 56) → ¬ (a = 108 ∧ k = (j - 5).toNat) → s'.1 a k = s.1 a k) (h2 : s'.2.1 = s.2.1) (c1 : s'.1 108 (j - 5).toNat = Int32.ofInt v) : RD (sB B 0 j v) G N s' := by
  have z : ∀ (i : Nat) (k : Int), ¬ (i = 0 ∧ k = j) → sB B 0 j v i k = B i k := fun i k h => if_neg h
  have zK : bK (sB B 0 j v) = bK B := z 0 2 (by omega)
  have zM : bM (sB B 0 j v) = bM B := z 0 3 (by omega)
  have zF : bF (sB B 0 j v) = bF B := z 0 4 (by omega)
  have zH : bHm (sB B 0 j v) = bHm B := z 0 7 (by omega)
  have zc : ∀ k : Int, cnt (sB B 0 j v) k = cnt B k := fun k => by unfold cnt; rw [zK, zM, zF]
  obtain ⟨⟨⟨a1, a2, a3⟩, ⟨a4, a5, a6, a7⟩, a8, a9⟩, b1, b2, b3, b4, b5⟩ := h
  refine ⟨⟨⟨by rw [zK]; exact (hf _ _ (by omega) (by omega)).trans a1, by rw [zM]; exact (hf _ _ (by omega) (by omega)).trans a2, by rw [zF]; exact (hf _ _ (by omega) (by omega)).trans a3⟩, ⟨by rw [show bW (sB B 0 j v) = bW B from z 0 0 (by omega)]; exact (hf _ _ (by omega) (by omega)).trans a4, by rw [show bH (sB B 0 j v) = bH B from z 0 1 (by omega)]; exact (hf _ _ (by omega) (by omega)).trans a5, by rw [show bD (sB B 0 j v) 0 = bD B 0 from z 1 0 (by omega)]; exact (hf _ _ (by omega) (by omega)).trans a6, by rw [show bD (sB B 0 j v) 1 = bD B 1 from z 1 1 (by omega)]; exact (hf _ _ (by omega) (by omega)).trans a7⟩, ?_⟩, fun k k0 k1 => ?_, fun k k0 k1 => ?_, fun k k0 k1 => ?_, ?_, fun k w x1 x2 x3 x4 => ?_⟩
  · rcases hj with rfl | rfl
    · rw [show bGr (sB B 0 5 v) = v from sB_e rfl rfl, show bSl (sB B 0 5 v) = bSl B from z 0 6 (by omega)]
      exact ⟨c1, (hf 108 1 (by omega) (by omega)).trans a9⟩
    · rw [show bSl (sB B 0 6 v) = v from sB_e rfl rfl, show bGr (sB B 0 6 v) = bGr B from z 0 5 (by omega)]
      exact ⟨(hf 108 0 (by omega) (by omega)).trans a8, c1⟩
  · rw [zK] at k1
    obtain ⟨d1, d2, d3, d4⟩ := b1 k k0 k1
    rw [show wy (sB B 0 j v) k = wy B k from z 2 k (by omega), show rch (sB B 0 j v) k = rch B k from z 3 k (by omega), show wo (sB B 0 j v) k = wo B k from z 4 k (by omega), show cr (sB B 0 j v) k = cr B k from z 5 k (by omega)]
    exact ⟨(hf _ _ (by omega) (by omega)).trans d1, (hf _ _ (by omega) (by omega)).trans d2, (hf _ _ (by omega) (by omega)).trans d3, (hf _ _ (by omega) (by omega)).trans d4⟩
  · rw [zM] at k1
    obtain ⟨d1, d2, d3, d4⟩ := b2 k k0 k1
    rw [show kd (sB B 0 j v) k = kd B k from z 6 k (by omega), show sd (sB B 0 j v) k = sd B k from z 7 k (by omega)]
    exact ⟨(hf _ _ (by omega) (by omega)).trans d1, (hf _ _ (by omega) (by omega)).trans d2, (hf _ _ (by omega) (by omega)).trans d3, (hf _ _ (by omega) (by omega)).trans d4⟩
  · rw [zF] at k1
    obtain ⟨d1, d2, d3⟩ := b3 k k0 k1
    rw [show fx (sB B 0 j v) k = fx B k from z 8 k (by omega), show fy (sB B 0 j v) k = fy B k from z 9 k (by omega)]
    exact ⟨(hf _ _ (by omega) (by omega)).trans d1, (hf _ _ (by omega) (by omega)).trans d2, (hf _ _ (by omega) (by omega)).trans d3⟩
  · unfold RDh
    rw [zH]
    rcases b4 with ⟨d1, d2, d3⟩ | ⟨d1, d2, d3, d4, d5, d6⟩
    · exact Or.inl ⟨d1, (hf _ _ (by omega) (by omega)).trans d2, (hf _ _ (by omega) (by omega)).trans d3⟩
    · exact Or.inr ⟨d1, d2, (hf _ _ (by omega) (by omega)).trans d3, (hf _ _ (by omega) (by omega)).trans d4, (hf _ _ (by omega) (by omega)).trans d5, fun i i0 i1 => (hf _ _ (by omega) (by omega)).trans ((d6 i i0 i1).trans (by rw [show hcd (sB B 0 j v) i = hcd B i from z 11 i (by omega)]))⟩
  · rw [h2]
    exact b5 k w x1 x2 x3 (by rw [zc] at x4; exact x4)
theorem m_set {r : EX Cur} {s : ST} (h : RG T n r s) (hV : DV B G N) (hD : RD B G N s) {j hi : Int} (hj : (j = 5 ∧ hi = 99) ∨ (j = 6 ∧ hi = 100)) : ∃ v s', f_X10_number (Int32.ofInt 0) (Int32.ofInt hi) s = some (v, s') ∧ BFr s (uI s' 108 (j - 5).toNat v) ∧ RDD T n (eb r (fun c => eb (numS T n c 0 hi) (fun a => .ok ((sB B 0 j a.1, G, N), a.2)))) (uI s' 108 (j - 5).toNat v) := by
  obtain ⟨v, s1, q1, p1, r1⟩ := g_num h (lo := 0) (hi := hi) (by omega) (by omega) (by omega) (by omega)
  have hf : ∀ o k : Nat, ¬ (o = 108 ∧ k = (j - 5).toNat) → (uI s1 108 (j - 5).toNat v).1 o k = s1.1 o k := fun o k x => by (simp only [ua, ja, u_2, u_3, j_1, j_3]; (repeat' split) <;> first | rfl | (exfalso; omega))
  refine ⟨v, s1, q1, p1.b.tr ⟨fun o k x => hf o k (by unfold LO at x; omega), fun _ _ _ => rfl, rfl⟩, ?_⟩
  cases r with
  | error e => exact RB_fr (r1 : RB e.1 e.2 s1) (hf 65 5 (by omega)) (hf 65 6 (by omega))
  | ok c =>
    rw [eb_ok] at r1 ⊢
    cases e1 : numS T n c 0 hi with
    | error e =>
      rw [e1] at r1
      exact RB_fr (r1 : RB e.1 e.2 s1) (hf 65 5 (by omega)) (hf 65 6 (by omega))
    | ok a =>
      rw [e1] at r1
      have hv := (numS_v e1).2.2.1
      have u1 : v = Int32.ofInt a.1 := r1.1
      refine ⟨⟨DV_S hV (by show (j = 5 ∧ 0 ≤ a.1 ∧ a.1 ≤ 99) ∨ (j = 6 ∧ 0 ≤ a.1 ∧ a.1 ≤ 100); omega), RD_S (RD_p hD p1) (by omega) (fun o k _ y => hf o k y) rfl (by rw [u_eq]; exact u1)⟩, RC_fr r1.2.1.1 (hf 65 2 (by omega)) (hf 65 3 (by omega)) (hf 65 4 (by omega)) (hf 65 5 (by omega)) (hf 65 6 (by omega)) (fun k => hf 66 k (by omega)), WDS_fr r1.2.1.2 (fun o k ho => hf o k (by omega))⟩
