/-! L3: where to sow, of the reference -/
theorem evL_ty {E F : Int → Int} (hE : ∀ i, 0 ≤ i → i ≤ 10 → lb (E i)) (hF : ∀ v, lb v → lb (F v)) : ∀ (l : List Int) (T T' : List Bool) (st : List Int), vts T st → tyL l T = some T' → vts T' (evL E F l st) := by
  intro l
  induction l with
  | nil =>
    intro T T' st hv ht
    have : some T = some T' := ht
    cases this
    exact hv
  | cons c l ih =>
    intro T T' st hv ht
    obtain ⟨T1, h1, h2⟩ := tyL_some ht
    exact ih T1 T' _ (ev_ty hE hF hv h1) h2
theorem hvm_b {B : Brd} (hV : Hv B) {t c f d : Int} (ht : lb t) (ht0 : 0 ≤ t) (hc : lb c) (hf : lb f) (hd : lb d) : 0 ≤ hvm B t c f d ∧ hvm B t c f d ≤ 1000000 := by
  unfold hvm
  by_cases e : bHm B = -1
  · rw [if_pos e]; unfold lb at ht; omega
  · rw [if_neg e]
    rcases hV with hV | ⟨-, -, h3, -⟩
    · exact absurd hV e
    have hv := evL_ty (E := hEnv t c f d) (F := fun _ => 0) (fun i _ _ => hEnv_b ht hc hf hd i) (fun _ _ => ⟨by omega, by omega⟩) (hL B) [] [false] [] trivial h3
    unfold hraw
    generalize evL (hEnv t c f d) (fun _ => 0) (hL B) [] = l at *
    match l, hv with
    | [v], hv =>
      have := hv.1.1
      unfold lb at this
      show 0 ≤ (if v < 0 then 0 else v) ∧ (if v < 0 then 0 else v) ≤ 1000000
      split <;> omega
def HMs (H : Int → Int) (s : ST) : Prop := ∀ k : Int, 0 ≤ k → k < 25 → s.2.1 119 k.toNat = Int64.ofInt (H k)
def addh (B : Brd) (t c x y d : Int) (H : Int → Int) (j : Int) : Int → Int := fun i => if i = j then H j + hvm B t c (farO (j % bW B) (j / bW B) x y) d else H i
def lay (B : Brd) (G : Gam) (A : CA) (H : Int → Int) : Int → Int := (sqs B).foldl (addh B (tkw B G A.2.2.2.2) (ckv B G A.2.2.2.1 A.2.2.2.2) (A.2.2.2.2 % bW B) (A.2.2.2.2 / bW B) (gd_ G)) H
/-- what laysHarms may change -/
def Fl (s s' : ST) : Prop := (∀ o k : Nat, ¬ (114 ≤ o ∧ o ≤ 117) → ¬ (o = 65 ∧ (k = 59 ∨ k = 117)) → s'.1 o k = s.1 o k) ∧ (∀ o k : Nat, ¬ o = 148 → ¬ o = 119 → ¬ (o = 65 ∧ 71 ≤ k ∧ k ≤ 73) → s'.2.1 o k = s.2.1 o k) ∧ s'.2.2 = s.2.2
theorem Fl.rf (s : ST) : Fl s s := ⟨fun _ _ _ _ => rfl, fun _ _ _ _ _ => rfl, rfl⟩
theorem Fl.tr {s t u : ST} (h1 : Fl s t) (h2 : Fl t u) : Fl s u := ⟨fun o k a b => (h2.1 o k a b).trans (h1.1 o k a b), fun o k a b c => (h2.2.1 o k a b c).trans (h1.2.1 o k a b c), h2.2.2.trans h1.2.2⟩
theorem HF.fl {s t : ST} (h : HF s t) : Fl s t := ⟨fun o k a b => h.1 o k (by omega), fun o k a b c => h.2.1 o k a (by omega), h.2.2⟩
theorem Sc.fl {a b : Int} {s t : ST} (h : Sc a b s t) : Fl s t := ⟨fun o k c d => h.1 o k (by omega), fun o k _ _ _ => by rw [h.2], by rw [h.2]⟩
theorem m_lays_L {B : Brd} {G : Gam} (hV : Hv B) {t c x y : Int} (ht : lb t) (ht0 : 0 ≤ t) (hc : lb c) (x1 : -10 ≤ x) (x2 : x ≤ 10) (y1 : -10 ≤ y) (y2 : y ≤ 10) : ∀ (n F : Nat) (i : Int) (H : Int → Int) (s : ST), MA B G s → MH B s → HMs H s → s.2.1 65 71 = Int64.ofInt t → s.2.1 65 72 = Int64.ofInt c → 0 ≤ i → (n : Int) = bW B * bH B - i → n < F → ∃ s', Fl s s' ∧ HMs ((upto n i).foldl (addh B t c x y (gd_ G)) H) s' ∧ f_X10_laysHarms_L93 F (Int32.ofInt x) (Int32.ofInt y) (Int32.ofInt i) s = some s' := by
  intro n
  induction n with
  | zero =>
    intro F i H s h hMH hs g1 g2 h0 hn hF
    obtain ⟨F, rfl⟩ : ∃ F', F = F' + 1 := ⟨F - 1, by omega⟩
    have hW : bW B ≤ 5 := h.1.1.1.2.1; have hH : bH B ≤ 5 := h.1.1.1.2.2.2.1; have hW0 : 0 ≤ bW B := h.1.1.1.1; have hH0 : 0 ≤ bH B := h.1.1.1.2.2.1; have hWH : bW B * bH B ≤ 25 := (Int.mul_le_mul hW hH hH0 (by omega)); have hWH0 : 0 ≤ bW B * bH B := Int.mul_nonneg hW0 hH0
    have hpl := m_places h
    refine ⟨s, Fl.rf s, hs, ?_⟩
    simp (disch := omega) only [f_X10_laysHarms_L93, hpl, n_i8, n_i16, n_0, n_31, n_add, n_sub, n_mul, n_neg, n_div, n_rem, n_le_t, n_le_f, n_lt_t, n_lt_f, n_eq_t, n_eq_f, n_cl, n_gd, n_gdt, n_nz, Int.reduceToNat, Int.reduceAdd, Int.reduceSub, Int.reduceMul, Int.reduceNeg, Int.reduceLT, Int.reduceLE, Int.reduceEq, Int.reduceDiv, Int.reduceMod, Nat.reduceAdd, Nat.reduceMul, ↓reduceIte, u_eq, u_no, u_nk, u_ek, u_2, u_3, j_1, j_3, j_eq, j_no, j_nk, ltd, bnd]
  | succ n ih =>
    intro F i H s h hMH hs g1 g2 h0 hn hF
    obtain ⟨F, rfl⟩ : ∃ F', F = F' + 1 := ⟨F - 1, by omega⟩
    have hW : bW B ≤ 5 := h.1.1.1.2.1; have hH : bH B ≤ 5 := h.1.1.1.2.2.2.1; have hW0 : 0 ≤ bW B := h.1.1.1.1; have hH0 : 0 ≤ bH B := h.1.1.1.2.2.1; have hWH : bW B * bH B ≤ 25 := (Int.mul_le_mul hW hH hH0 (by omega)); have hWH0 : 0 ≤ bW B * bH B := Int.mul_nonneg hW0 hH0
    have hpl := m_places h
    have hWp : 0 < bW B := by
      rcases Int.lt_or_eq_of_le hW0 with e | e
      · exact e
      · rw [← e] at hn; omega
    have x3 : 0 ≤ i % bW B := Int.emod_nonneg _ (by omega)
    have x4 : i % bW B < bW B := Int.emod_lt_of_pos _ hWp
    have y3 : 0 ≤ i / bW B := Int.ediv_nonneg h0 hW0
    have y4 : i / bW B < bH B := Int.ediv_lt_of_lt_mul hWp (by rw [Int.mul_comm]; omega)
    have hR : i - i / bW B * bW B = i % bW B := n_rem i (bW B)
    have c4 : s.1 103 4 = Int32.ofInt (bW B) := h.2.2.1.1.2.2.2.1
    have hday := m_day h
    have hdd := h.2.1.1
    obtain ⟨s1, q1, q2, q3, q4⟩ := m_harmAt hMH hV g1 g2 hday ht ht0 hc hdd.1 hdd.2.1 (x := i % bW B) (y := i / bW B) (a := x) (b := y) (by omega) (by omega) (by omega) (by omega) x1 x2 y1 y2
    have hA1 := MA_HF h q2
    have hcell := hs i h0 (by omega)
    simp only [upto, List.foldl_cons]
    have hst : addh B t c x y (gd_ G) H i = fun j => if j = i then H i + hvm B t c (farO (i % bW B) (i / bW B) x y) (gd_ G) else H j := rfl
    generalize hvm B t c (farO (i % bW B) (i / bW B) x y) (gd_ G) = w at *
    have hs2 : HMs (addh B t c x y (gd_ G) H i) (uJ s1 119 i.toNat (Int64.ofInt (H i + w))) := by
      intro j j1 j2
      rw [hst]
      by_cases e : j = i
      · subst e
        simp only [if_true]
        rw [j_eq]
      · simp only [if_neg e]
        rw [j_nk (by omega), q2.2.1 119 _ (by omega) (by omega)]
        exact hs j j1 j2
    have f1 : Fl s (uJ s1 119 i.toNat (Int64.ofInt (H i + w))) := q2.fl.tr ⟨fun o k a b => rfl, fun o k a b c => by (simp only [ua, ja, u_2, u_3, j_1, j_3]; (repeat' split) <;> first | rfl | (exfalso; omega)), rfl⟩
    obtain ⟨s2, q5, q6, q7⟩ := ih F (i + 1) _ (uJ s1 119 i.toNat (Int64.ofInt (H i + w))) (MA_o hA1 (fun o k ho => rfl)) (MH_fr hMH (fun o k o1 o2 => f1.1 o k (by omega) (by omega))) hs2 ((j_no (by omega)).trans ((q2.2.1 65 71 (by omega) (by omega)).trans g1)) ((j_no (by omega)).trans ((q2.2.1 65 72 (by omega) (by omega)).trans g2)) (by omega) (by omega) (by omega)
    refine ⟨s2, f1.tr q5, q6, ?_⟩
    rw [← q7]
    simp (disch := omega) only [f_X10_laysHarms_L93, hpl, c4, hR, q1, hcell, n_i8, n_i16, n_0, n_31, n_add, n_sub, n_mul, n_neg, n_div, n_rem, n_le_t, n_le_f, n_lt_t, n_lt_f, n_eq_t, n_eq_f, n_cl, n_gd, n_gdt, n_nz, Int.reduceToNat, Int.reduceAdd, Int.reduceSub, Int.reduceMul, Int.reduceNeg, Int.reduceLT, Int.reduceLE, Int.reduceEq, Int.reduceDiv, Int.reduceMod, Nat.reduceAdd, Nat.reduceMul, ↓reduceIte, l_0, l_1, l_00, l_i, l_j, l_add, l_sub, l_mul, l_gt, l_ceq, l_clt, l_nz, u_eq, u_no, u_nk, u_ek, u_2, u_3, j_1, j_3, j_eq, j_no, j_nk, ltd, bnd]
theorem gd_mp {α β : Type} (c : Bool) (x : Option α) (f : α → β) : (gd c x).map f = gd c (x.map f) := by
  unfold gd
  split <;> rfl
theorem gd_bd {α β : Type} (c : Bool) (x : Option α) (f : α → Option β) : (gd c x).bind f = gd c (x.bind f) := by
  unfold gd
  split <;> rfl
theorem und_J1 (x1 x2 : Int32) (s : ST) (a b : Nat) (v : Int64) : f_X10_undoes_j51 x1 x2 (uJ s a b v) = (f_X10_undoes_j51 x1 x2 s).map (fun r => uJ r a b v) := by
  unfold f_X10_undoes_j51
  simp only [gd_mp, lt, Option.map_some]
  rfl
theorem und_J (p : Int32) (s : ST) (a b : Nat) (v : Int64) : f_X10_undoes p (uJ s a b v) = (f_X10_undoes p s).map (fun r => uJ r a b v) := by
  unfold f_X10_undoes f_X10_columnOf f_X10_rowOf
  by_cases c : s.1 117 p.toNatClampNeg = Int32.ofInt (-1)
  · simp only [gd_mp, j_1, if_pos c, und_J1]
  · simp only [gd_mp, gd_bd, j_1, if_neg c, lt, Option.bind_some, ← und_J1]
    rfl
theorem m_lays {B : Brd} {G : Gam} {s : ST} (h : MA B G s) (hMH : MH B s) (hV : Hv B) {A : CA} (hC : CH A s) (hA : okA B G A) (hn : ¬ A.1 = -1) {H : Int → Int} (hs : HMs H s) : ∃ s', f_X10_laysHarms s = some s' ∧ Fl s s' ∧ HMs (lay B G A H) s' := by
  rcases hA with hA | ⟨-, m1, m2, k1, k2, hsd, hgo⟩
  · exact absurd hA hn
  have c69 := (hC.2 hn).1
  have c70 := (hC.2 hn).2
  unfold lay
  generalize hm : A.2.2.2.1 = m at *
  generalize hk : A.2.2.2.2 = k at *
  have hM : bM B ≤ 8 := h.1.1.1.2.2.2.2.2.2.2.1; have hM0 : 0 ≤ bM B := h.1.1.1.2.2.2.2.2.2.1
  have hW : bW B ≤ 5 := h.1.1.1.2.1; have hH : bH B ≤ 5 := h.1.1.1.2.2.2.1; have hW0 : 0 ≤ bW B := h.1.1.1.1; have hH0 : 0 ≤ bH B := h.1.1.1.2.2.1; have hWH : bW B * bH B ≤ 25 := (Int.mul_le_mul hW hH hH0 (by omega)); have hWH0 : 0 ≤ bW B * bH B := Int.mul_nonneg hW0 hH0
  have hWp : 0 < bW B := by
    rcases Int.lt_or_eq_of_le hW0 with e | e
    · exact e
    · rw [← e] at k2; omega
  have x1 : 0 ≤ k % bW B := Int.emod_nonneg _ (by omega)
  have x2 : k % bW B < bW B := Int.emod_lt_of_pos _ hWp
  have y1 : 0 ≤ k / bW B := Int.ediv_nonneg k1 hW0
  have y2 : k / bW B < bH B := Int.ediv_lt_of_lt_mul hWp (by rw [Int.mul_comm]; exact k2)
  have hR : k - k / bW B * bW B = k % bW B := n_rem k (bW B)
  have c4 : s.1 103 4 = Int32.ofInt (bW B) := h.2.2.1.1.2.2.2.1
  have hmA := m_manAt h (a := k % bW B) (b := k / bW B) (by omega) (by omega) (by omega) (by omega)
  have hsp := mAt_spec (B := B) hM0 G (k % bW B) (k / bW B)
  have htk : tkm B G k = mAt B G (k % bW B) (k / bW B) := rfl
  rw [← htk] at hmA hsp
  have hw : 0 ≤ tkw B G k ∧ tkw B G k ≤ 99 := by
    unfold tkw
    split
    · omega
    · have hb := h.1.2.2.1 (tkm B G k) (by omega) (by omega)
      have := h.1.2.1 (kd B (tkm B G k)) hb.1 hb.2.1
      omega
  have main : ∃ s1, f_X10_laysHarms_j47 (Int32.ofInt (k % bW B)) (Int32.ofInt (k / bW B)) (Int64.ofInt (tkw B G k)) s = some s1 ∧ Fl s s1 ∧ HMs ((sqs B).foldl (addh B (tkw B G k) (ckv B G m k) (k % bW B) (k / bW B) (gd_ G)) H) s1 := by
    have hA1 : MA B G (uJ s 65 71 (Int64.ofInt (tkw B G k))) := MA_o h (fun o k ho => rfl)
    obtain ⟨s2, q1, q2, -, q3⟩ := m_try hA1 (L := 4) (by omega) (by omega) m1 m2 k1 k2 hgo
    have q2 : MA B (mvK B G m k) s2 := q2
    have hs2 := m_side q2
    have hgs2 := q2.2.1.1.2.2
    have hck := m_isCheck q2 hgs2.1 hgs2.2
    have hcv : ckv B G m k = if chk B (mvK B G m k) (gs (mvK B G m k)) = true then 1 else 0 := rfl
    have hck2 : lb (ckv B G m k) := by unfold ckv lb; split <;> omega
    obtain ⟨s3, q4, q5⟩ := q3 s2 1 0 (Sc.rf 1 0 s2) (by omega) 0 4 (by omega) (by omega) (by omega) (by omega)
    have q6 : f_X10_undoes (Int32.ofInt 4) (uJ s2 65 72 (Int64.ofInt (ckv B G m k))) = some (uJ s3 65 72 (Int64.ofInt (ckv B G m k))) := by rw [und_J, q4]; rfl
    have f3 : Fl s (uJ s3 65 72 (Int64.ofInt (ckv B G m k))) := (show Fl s (uJ s 65 71 (Int64.ofInt (tkw B G k))) from ⟨fun o k a b => rfl, fun o k a b c => by (simp only [ua, ja, u_2, u_3, j_1, j_3]; (repeat' split) <;> first | rfl | (exfalso; omega)), rfl⟩).tr (q5.fl.tr ⟨fun o k a b => rfl, fun o k a b c => by (simp only [ua, ja, u_2, u_3, j_1, j_3]; (repeat' split) <;> first | rfl | (exfalso; omega)), rfl⟩)
    have hA3 : MA B G (uJ s3 65 72 (Int64.ofInt (ckv B G m k))) := MA_fr h (fun o k hk => f3.1 o k (by omega) (by omega))
    have hs3 : HMs H (uJ s3 65 72 (Int64.ofInt (ckv B G m k))) := fun j j1 j2 => by
      rw [j_no (by omega), q5.2, j_no (by omega)]
      exact hs j j1 j2
    obtain ⟨s4, r1, r2, r3⟩ := m_lays_L (G := G) hV (t := tkw B G k) (c := ckv B G m k) (x := k % bW B) (y := k / bW B) ⟨by omega, by omega⟩ hw.1 hck2 (by omega) (by omega) (by omega) (by omega) (bW B * bH B).toNat fuel 0 H (uJ s3 65 72 (Int64.ofInt (ckv B G m k))) hA3 (MH_fr hMH (fun o k o1 o2 => f3.1 o k (by omega) (by omega))) hs3 (by rw [j_nk (by omega), q5.2, j_eq]) (by rw [j_eq]) (by omega) (by omega) (by unfold fuel; omega)
    refine ⟨s4, ?_, f3.tr r1, r2⟩
    rw [← r3]
    have d69 : (uJ s 65 71 (Int64.ofInt (tkw B G k))).1 65 69 = Int32.ofInt m := c69
    have d70 : (uJ s 65 71 (Int64.ofInt (tkw B G k))).1 65 70 = Int32.ofInt k := c70
    cases e : chk B (mvK B G m k) (gs (mvK B G m k)) with
    | true =>
      rw [e, if_pos rfl] at hcv
      rw [e] at hck
      rw [hcv] at q6
      simp (disch := omega) only [f_X10_laysHarms_j47, f_X10_laysHarms_j82, d69, d70, q1, hs2, hck, hcv, q6, bI_t, n_i8, n_i16, n_0, n_31, n_add, n_sub, n_mul, n_neg, n_div, n_rem, n_le_t, n_le_f, n_lt_t, n_lt_f, n_eq_t, n_eq_f, n_cl, n_gd, n_gdt, n_nz, Int.reduceToNat, Int.reduceAdd, Int.reduceSub, Int.reduceMul, Int.reduceNeg, Int.reduceLT, Int.reduceLE, Int.reduceEq, Int.reduceDiv, Int.reduceMod, Nat.reduceAdd, Nat.reduceMul, ↓reduceIte, l_0, l_1, l_00, l_i, l_j, l_add, l_sub, l_mul, l_gt, l_ceq, l_clt, l_nz, Int.toNat_one, ltd, bnd]
    | false =>
      rw [e, if_neg (by decide)] at hcv
      rw [e] at hck
      rw [hcv] at q6
      simp (disch := omega) only [f_X10_laysHarms_j47, f_X10_laysHarms_j82, d69, d70, q1, hs2, hck, hcv, q6, bI_f, n_i8, n_i16, n_0, n_31, n_add, n_sub, n_mul, n_neg, n_div, n_rem, n_le_t, n_le_f, n_lt_t, n_lt_f, n_eq_t, n_eq_f, n_cl, n_gd, n_gdt, n_nz, Int.reduceToNat, Int.reduceAdd, Int.reduceSub, Int.reduceMul, Int.reduceNeg, Int.reduceLT, Int.reduceLE, Int.reduceEq, Int.reduceDiv, Int.reduceMod, Nat.reduceAdd, Nat.reduceMul, ↓reduceIte, l_0, l_1, l_00, l_i, l_j, l_add, l_sub, l_mul, l_gt, l_ceq, l_clt, l_nz, Int.toNat_one, ltd, bnd]
  by_cases e : tkm B G k = -1
  · obtain ⟨s1, q1, q2, q3⟩ := main
    refine ⟨s1, ?_, q2, q3⟩
    rw [← q1]
    have hw0 : tkw B G k = 0 := by unfold tkw; rw [if_pos e]
    rw [hw0]
    rw [e] at hmA
    simp (disch := omega) only [f_X10_laysHarms, c4, c70, hR, hmA, n_i8, n_i16, n_0, n_31, n_add, n_sub, n_mul, n_neg, n_div, n_rem, n_le_t, n_le_f, n_lt_t, n_lt_f, n_eq_t, n_eq_f, n_cl, n_gd, n_gdt, n_nz, Int.reduceToNat, Int.reduceAdd, Int.reduceSub, Int.reduceMul, Int.reduceNeg, Int.reduceLT, Int.reduceLE, Int.reduceEq, Int.reduceDiv, Int.reduceMod, Nat.reduceAdd, Nat.reduceMul, ↓reduceIte, l_0, l_1, l_00, l_i, l_j, l_add, l_sub, l_mul, l_gt, l_ceq, l_clt, l_nz, u_eq, u_no, u_nk, u_ek, u_2, u_3, j_1, j_3, j_eq, j_no, j_nk, ltd, bnd]
  · obtain ⟨s1, q1, q2, q3⟩ := main
    refine ⟨s1, ?_, q2, q3⟩
    rw [← q1]
    have hw0 : tkw B G k = wo B (kd B (tkm B G k)) := by unfold tkw; rw [if_neg e]
    have hwo := m_worthOf h (m := tkm B G k) (by omega) (by omega)
    have hwb := h.1.2.2.1 (tkm B G k) (by omega) (by omega)
    rw [← hw0] at hwo
    simp (disch := omega) only [f_X10_laysHarms, c4, c70, hR, hmA, hwo, n_i8, n_i16, n_0, n_31, n_add, n_sub, n_mul, n_neg, n_div, n_rem, n_le_t, n_le_f, n_lt_t, n_lt_f, n_eq_t, n_eq_f, n_cl, n_gd, n_gdt, n_nz, Int.reduceToNat, Int.reduceAdd, Int.reduceSub, Int.reduceMul, Int.reduceNeg, Int.reduceLT, Int.reduceLE, Int.reduceEq, Int.reduceDiv, Int.reduceMod, Nat.reduceAdd, Nat.reduceMul, ↓reduceIte, l_0, l_1, l_00, l_i, l_j, l_add, l_sub, l_mul, l_gt, l_ceq, l_clt, l_nz, u_eq, u_no, u_nk, u_ek, u_2, u_3, j_1, j_3, j_eq, j_no, j_nk, ltd, bnd]
/-- the least of harms, of like ones the first -/
def lstS (H : Int → Int) (b k : Int) : Int := if H k < H b then k else b
def sowS (B : Brd) (p : Gam × (Int → Int)) : Gam × (Int → Int) := (dayB B (-1) 0 p.1, if (todA B (-1) 0 p.1).1 = -1 then p.2 else lay B p.1 (todA B (-1) 0 p.1) p.2)
def sowN (B : Brd) : Nat → Gam × (Int → Int) → Gam × (Int → Int)
  | 0, p => p
  | n + 1, p => sowN B n (sowS B p)
def Hb (H : Int → Int) (M : Int) : Prop := ∀ k, 0 ≤ H k ∧ H k ≤ M
theorem tkw_b {B : Brd} (hB : Bv B) {G : Gam} {k : Int} : 0 ≤ tkw B G k ∧ tkw B G k ≤ 99 := by
  have hM0 : 0 ≤ bM B := hB.1.1.2.2.2.2.2.2.1
  have hsp := mAt_spec (B := B) hM0 G (k % bW B) (k / bW B)
  have htk : tkm B G k = mAt B G (k % bW B) (k / bW B) := rfl
  rw [← htk] at hsp
  unfold tkw
  split
  · omega
  · have hb := hB.2.2.1 (tkm B G k) (by omega) (by omega)
    have := hB.2.1 (kd B (tkm B G k)) hb.1 hb.2.1
    omega
theorem lay_b1 {B : Brd} (hV : Hv B) {t c x y d : Int} (ht : lb t) (ht0 : 0 ≤ t) (hc : lb c) (hd : lb d) (x1 : -10 ≤ x) (x2 : x ≤ 10) (y1 : -10 ≤ y) (y2 : y ≤ 10) : ∀ (l : List Int) (H : Int → Int) (M : Int), (∀ k ∈ l, -10 ≤ k % bW B ∧ k % bW B ≤ 10 ∧ -10 ≤ k / bW B ∧ k / bW B ≤ 10) → Hb H M → Hb (l.foldl (addh B t c x y d) H) (M + 1000000 * l.length)
  | [], H, M, _, h => by simpa using h
  | k :: l, H, M, hl, h => by
    have hk := hl k List.mem_cons_self
    have hf := farO_b hk.1 hk.2.1 hk.2.2.1 hk.2.2.2 x1 x2 y1 y2
    have hh := hvm_b hV ht ht0 hc (f := farO (k % bW B) (k / bW B) x y) ⟨by omega, by omega⟩ hd
    have h1 : Hb (addh B t c x y d H k) (M + 1000000) := by
      intro j
      have a := h j
      have b := h k
      unfold addh
      split <;> omega
    have := lay_b1 hV ht ht0 hc hd x1 x2 y1 y2 l _ _ (fun j hj => hl j (List.mem_cons_of_mem _ hj)) h1
    rw [List.foldl_cons, List.length_cons, show M + 1000000 * ((l.length + 1 : Nat) : Int) = M + 1000000 + 1000000 * (l.length : Int) by omega]
    exact this
theorem sq_xy {B : Brd} (hB : Bv B) {k : Int} (k1 : 0 ≤ k) (k2 : k < bW B * bH B) : 0 < bW B ∧ 0 ≤ k % bW B ∧ k % bW B < bW B ∧ 0 ≤ k / bW B ∧ k / bW B < bH B := by
  have hW0 : 0 ≤ bW B := hB.1.1.1
  have hWp : 0 < bW B := by
    rcases Int.lt_or_eq_of_le hW0 with e | e
    · exact e
    · rw [← e] at k2; omega
  exact ⟨hWp, Int.emod_nonneg _ (by omega), Int.emod_lt_of_pos _ hWp, Int.ediv_nonneg k1 hW0, Int.ediv_lt_of_lt_mul hWp (by rw [Int.mul_comm]; exact k2)⟩
theorem lay_b {B : Brd} (hB : Bv B) (hV : Hv B) {G : Gam} (hG : Gv B G) {A : CA} (hA : okA B G A) (hn : ¬ A.1 = -1) {H : Int → Int} {M : Int} (h : Hb H M) : Hb (lay B G A H) (M + 25000000) := by
  rcases hA with hA | ⟨-, m1, m2, k1, k2, hsd, hgo⟩
  · exact absurd hA hn
  have hW : bW B ≤ 5 := hB.1.1.2.1
  have hH : bH B ≤ 5 := hB.1.1.2.2.2.1
  have hxy := sq_xy hB k1 k2
  have ht := tkw_b hB (G := G) (k := A.2.2.2.2)
  have hl := sqs_len hB
  have := lay_b1 hV (t := tkw B G A.2.2.2.2) (c := ckv B G A.2.2.2.1 A.2.2.2.2) (x := A.2.2.2.2 % bW B) (y := A.2.2.2.2 / bW B) (d := gd_ G) ⟨by omega, by omega⟩ ht.1 (by unfold ckv lb; split <;> omega) (by have := hG.1; exact ⟨by omega, by omega⟩) (by omega) (by omega) (by omega) (by omega) (sqs B) H M (fun k hk => by
    unfold sqs at hk
    rw [mem_upto] at hk
    have := sq_xy hB hk.1 (by omega)
    omega) h
  intro k
  have a := this k
  unfold lay
  omega
