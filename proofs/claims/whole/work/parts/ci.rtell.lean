/-! L3: the reference reads a board -/
variable {T : Int → Int} {n : Int} {B : Brd} {G : Gam} {N : Int → Int → List Int}
theorem RD_H {l : List Int} {s s' : ST} (h : RD B G N s) (hl : (l.length : Int) ≤ 1600) (hf : ∀ a k : Nat, 101 ≤ a ∧ a ≤ 108 → s'.1 a k = s.1 a k) (h2 : s'.2.1 = s.2.1) (c1 : s'.1 109 0 = Int32.ofInt 0) (c2 : s'.1 110 0 = Int32.ofInt (l.length : Int)) (c3 : s'.1 65 56 = Int32.ofInt (l.length : Int)) (c4 : ∀ i : Nat, i < l.length → s'.1 111 i = Int32.ofInt (l.getD i 0)) : RD (setH B l) G N s' := by
  obtain ⟨n1, n2⟩ := setH_n (B := B) (l := l)
  have z : ∀ (i : Nat) (j : Int), ¬ i = 11 → ¬ (i = 0 ∧ j = 7) → setH B l i j = B i j := fun i j h1 h2 => setH_o h1 h2
  have zK : bK (setH B l) = bK B := z 0 2 (by omega) (by omega)
  have zM : bM (setH B l) = bM B := z 0 3 (by omega) (by omega)
  have zF : bF (setH B l) = bF B := z 0 4 (by omega) (by omega)
  have zc : ∀ j : Int, cnt (setH B l) j = cnt B j := fun j => by unfold cnt; rw [zK, zM, zF]
  obtain ⟨⟨⟨a1, a2, a3⟩, ⟨a4, a5, a6, a7⟩, a8, a9⟩, b1, b2, b3, b4, b5⟩ := h
  refine ⟨⟨⟨by rw [zK]; exact (hf _ _ (by omega)).trans a1, by rw [zM]; exact (hf _ _ (by omega)).trans a2, by rw [zF]; exact (hf _ _ (by omega)).trans a3⟩, ⟨(hf _ _ (by omega)).trans a4, (hf _ _ (by omega)).trans a5, (hf _ _ (by omega)).trans a6, (hf _ _ (by omega)).trans a7⟩, (hf _ _ (by omega)).trans a8, (hf _ _ (by omega)).trans a9⟩, fun k k0 k1 => ?_, fun k k0 k1 => ?_, fun k k0 k1 => ?_, Or.inr ⟨by rw [n1]; omega, by rw [n1]; exact hl, c1, by rw [n1]; exact c2, by rw [n1]; exact c3, fun i i0 i1 => ?_⟩, fun k w x1 x2 x3 x4 => ?_⟩
  · rw [zK] at k1
    obtain ⟨d1, d2, d3, d4⟩ := b1 k k0 k1
    exact ⟨(hf _ _ (by omega)).trans d1, (hf _ _ (by omega)).trans d2, (hf _ _ (by omega)).trans d3, (hf _ _ (by omega)).trans d4⟩
  · rw [zM] at k1
    obtain ⟨d1, d2, d3, d4⟩ := b2 k k0 k1
    exact ⟨(hf _ _ (by omega)).trans d1, (hf _ _ (by omega)).trans d2, (hf _ _ (by omega)).trans d3, (hf _ _ (by omega)).trans d4⟩
  · rw [zF] at k1
    obtain ⟨d1, d2, d3⟩ := b3 k k0 k1
    exact ⟨(hf _ _ (by omega)).trans d1, (hf _ _ (by omega)).trans d2, (hf _ _ (by omega)).trans d3⟩
  · rw [n1] at i1
    rw [n2]
    exact c4 i.toNat (by omega)
  · rw [h2]
    exact b5 k w x1 x2 x3 (by rw [zc] at x4; exact x4)
theorem m_cpy_L {l : List Int} (hl : (l.length : Int) ≤ 1600) : ∀ (m F : Nat) (i : Nat) (s : ST), s.1 65 111 = Int32.ofInt (l.length : Int) → s.1 65 56 = Int32.ofInt (i : Int) → (∀ j : Nat, j < l.length → s.1 146 j = Int32.ofInt (l.getD j 0)) → (∀ j : Nat, j < i → s.1 111 j = Int32.ofInt (l.getD j 0)) → i + m = l.length → m < F → ∃ s', f_X10_harmTold_L80 f_X10_harmTold_j119 F (Int32.ofInt (i : Int)) s = f_X10_harmTold_j119 s' ∧ s'.1 65 56 = Int32.ofInt (l.length : Int) ∧ (∀ j : Nat, j < l.length → s'.1 111 j = Int32.ofInt (l.getD j 0)) ∧ (∀ o k : Nat, ¬ (o = 65 ∧ k = 56) → ¬ (o = 111 ∧ k < 1600) → s'.1 o k = s.1 o k) ∧ s'.2 = s.2 := by
  intro m
  induction m with
  | zero =>
    intro F i s h1 h2 h3 h4 hi hF
    obtain ⟨F, rfl⟩ : ∃ F', F = F' + 1 := ⟨F - 1, by omega⟩
    have e : i = l.length := by omega
    subst e
    refine ⟨s, ?_, h2, h4, fun _ _ _ _ => rfl, rfl⟩
    simp (disch := omega) only [f_X10_harmTold_L80, h1, n_i8, n_i16, n_0, n_31, n_add, n_sub, n_mul, n_neg, n_div, n_rem, n_le_t, n_le_f, n_lt_t, n_lt_f, n_eq_t, n_eq_f, n_cl, n_gd, n_gdt, n_nz, Int.reduceToNat, Int.reduceAdd, Int.reduceSub, Int.reduceMul, Int.reduceNeg, Int.reduceLT, Int.reduceLE, Int.reduceEq, Int.reduceDiv, Int.reduceMod, Nat.reduceAdd, Nat.reduceMul, ↓reduceIte]
  | succ m ih =>
    intro F i s h1 h2 h3 h4 hi hF
    obtain ⟨F, rfl⟩ : ∃ F', F = F' + 1 := ⟨F - 1, by omega⟩
    have hv := h3 i (by omega)
    have ecl : (Int32.ofInt (i : Int)).toNatClampNeg = i := by rw [n_cl (by omega) (by omega)]; omega
    have hfr : ∀ o k : Nat, ¬ (o = 65 ∧ k = 56) → ¬ (o = 111 ∧ k = i) → (uI (uI s 111 i (Int32.ofInt (l.getD i 0))) 65 56 (Int32.ofInt ((i : Int) + 1))).1 o k = s.1 o k := fun o k x y => by (simp only [ua, ja, u_2, u_3, j_1, j_3]; (repeat' split) <;> first | rfl | (exfalso; omega))
    obtain ⟨s', q1, q2, q3, q4, q5⟩ := ih F (i + 1) (uI (uI s 111 i (Int32.ofInt (l.getD i 0))) 65 56 (Int32.ofInt ((i : Int) + 1))) ((hfr 65 111 (by omega) (by omega)).trans h1) (by rw [u_eq]; rfl) (fun j hj => (hfr 146 j (by omega) (by omega)).trans (h3 j hj)) (fun j hj => by
      by_cases e : j = i
      · subst e; rw [u_no (by omega), u_eq]
      · exact (hfr 111 j (by omega) (by omega)).trans (h4 j (by omega))) (by omega) (by omega)
    refine ⟨s', ?_, q2, q3, fun o k x y => (q4 o k x y).trans (hfr o k x (by omega)), q5⟩
    rw [← q1, f_X10_harmTold_L80, show ((i + 1 : Nat) : Int) = (i : Int) + 1 by omega]
    have egd : ∀ {α : Type} {y : Option α}, gd (ib (Int32.ofInt (i : Int)) 1700) y = y := by intro α y; exact n_gd (by omega) (by omega) (by omega)
    have egd2 : ∀ {α : Type} {y : Option α}, gd (ib (Int32.ofInt (i : Int)) 3200) y = y := by intro α y; exact n_gd (by omega) (by omega) (by omega)
    simp (disch := omega) only [h1, h2, hv, ecl, egd, egd2, n_i8, n_i16, n_0, n_31, n_add, n_sub, n_mul, n_neg, n_div, n_rem, n_le_t, n_le_f, n_lt_t, n_lt_f, n_eq_t, n_eq_f, n_cl, n_gd, n_gdt, n_nz, Int.reduceToNat, Int.reduceAdd, Int.reduceSub, Int.reduceMul, Int.reduceNeg, Int.reduceLT, Int.reduceLE, Int.reduceEq, Int.reduceDiv, Int.reduceMod, Nat.reduceAdd, Nat.reduceMul, ↓reduceIte, u_eq, u_no, u_nk, u_ek, u_2, u_3, j_1, j_3, j_eq, j_no, j_nk, ltd, bnd]
theorem sumT_l {m : Bool} {d : Nat} {c : Cur} {a : List Int × Cur} (h : sumT T n m d c = .ok a) (c0 : 0 ≤ c.1) (cn : c.1 ≤ n) : c.1 + (a.1.length : Int) ≤ a.2.1 ∧ c.1 < a.2.1 ∧ a.2.1 ≤ n := by
  have hr := sumT_b (T := T) (n := n) (m := m) d c c0 cn
  rw [h] at hr
  exact hr
theorem m_harmT {c : Cur} {s : ST} {bg : Int} (hV : DV B G N) (hD : RD B G N s) (hc : RC T n c s) (hw : WDS s) : ∃ s', f_X10_harmTold (Int32.ofInt bg) s = some s' ∧ BFr s s' ∧ (¬ bHm B = -1 → RB 5 bg s') ∧ (bHm B = -1 → RQ (sumT T n false 6 c) (fun a => RD (setH B a.1) G N s' ∧ RC T n a.2 s' ∧ WDS s') (fun k p => RB k p s')) := by
  have h5 := hc.b.1
  have hcb := hc.b.2.1
  have e0 : (Int32.ofInt 0).toNatClampNeg = 0 := rfl
  rcases hD.2.2.2.2.1 with ⟨d1, d2, d3⟩ | ⟨d1, d2, d3, -⟩
  · have hf : ∀ o k : Nat, ¬ (o = 65 ∧ (k = 59 ∨ (111 ≤ k ∧ k ≤ 115))) → (uI (uI (uI (uI (uI s 65 59 (Int32.ofInt 1)) 65 111 (Int32.ofInt 0)) 65 113 (Int32.ofInt 0)) 65 114 (Int32.ofInt 0)) 65 115 (Int32.ofInt 0)).1 o k = s.1 o k := fun o k x => by (simp only [ua, ja, u_2, u_3, j_1, j_3]; (repeat' split) <;> first | rfl | (exfalso; omega))
    have g59 : (uI (uI (uI (uI (uI s 65 59 (Int32.ofInt 1)) 65 111 (Int32.ofInt 0)) 65 113 (Int32.ofInt 0)) 65 114 (Int32.ofInt 0)) 65 115 (Int32.ofInt 0)).1 65 59 = Int32.ofInt 1 := by rw [u_nk (by omega), u_nk (by omega), u_nk (by omega), u_nk (by omega), u_eq]
    have g111 : (uI (uI (uI (uI (uI s 65 59 (Int32.ofInt 1)) 65 111 (Int32.ofInt 0)) 65 113 (Int32.ofInt 0)) 65 114 (Int32.ofInt 0)) 65 115 (Int32.ofInt 0)).1 65 111 = Int32.ofInt 0 := by rw [u_nk (by omega), u_nk (by omega), u_nk (by omega), u_eq]
    have g113 : (uI (uI (uI (uI (uI s 65 59 (Int32.ofInt 1)) 65 111 (Int32.ofInt 0)) 65 113 (Int32.ofInt 0)) 65 114 (Int32.ofInt 0)) 65 115 (Int32.ofInt 0)).1 65 113 = Int32.ofInt 0 := by rw [u_nk (by omega), u_nk (by omega), u_eq]
    have g114 : (uI (uI (uI (uI (uI s 65 59 (Int32.ofInt 1)) 65 111 (Int32.ofInt 0)) 65 113 (Int32.ofInt 0)) 65 114 (Int32.ofInt 0)) 65 115 (Int32.ofInt 0)).1 65 114 = Int32.ofInt 0 := by rw [u_nk (by omega), u_eq]
    have g115 : (uI (uI (uI (uI (uI s 65 59 (Int32.ofInt 1)) 65 111 (Int32.ofInt 0)) 65 113 (Int32.ofInt 0)) 65 114 (Int32.ofInt 0)) 65 115 (Int32.ofInt 0)).1 65 115 = Int32.ofInt 0 := u_eq _ _ _ _
    have ef : f_X10_harmTold (Int32.ofInt bg) s = (f_X10_qSums (uI (uI (uI (uI (uI s 65 59 (Int32.ofInt 1)) 65 111 (Int32.ofInt 0)) 65 113 (Int32.ofInt 0)) 65 114 (Int32.ofInt 0)) 65 115 (Int32.ofInt 0))).bind (fun q7 => (if (q7.1 65 5) = 0 then gd (ib (Int32.ofInt 0) 2) (lt (uI q7 109 (Int32.ofInt 0).toNatClampNeg (q7.1 65 56)) (fun s10 => (f_X10_harmTold_L80 f_X10_harmTold_j119 fuel) (Int32.ofInt 0) s10)) else some q7)) := by
      unfold f_X10_harmTold f_X10_harmTold_j23
      rw [if_pos (show s.1 65 5 = 0 from h5), n_gd (by omega) (by omega) (by omega), e0, if_pos d2, if_pos (show s.1 65 5 = 0 from h5), ltd]
    generalize (uI (uI (uI (uI (uI s 65 59 (Int32.ofInt 1)) 65 111 (Int32.ofInt 0)) 65 113 (Int32.ofInt 0)) 65 114 (Int32.ofInt 0)) 65 115 (Int32.ofInt 0)) = s1 at *
    have hs1 : ∃ x, x = s1 := ⟨_, rfl⟩
    sorry
  · sorry
