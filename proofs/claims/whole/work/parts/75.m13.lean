/-! L3: harm of the reference -/
def hL (B : Brd) : List Int := (upto (bHm B).toNat 0).map (hcd B)
def MH (B : Brd) (s : ST) : Prop := (bHm B = -1 ∧ s.1 109 1 = Int32.ofInt (-1)) ∨ (0 ≤ bHm B ∧ bHm B ≤ 1600 ∧ s.1 109 1 = Int32.ofInt 0 ∧ s.1 110 1 = Int32.ofInt (bHm B) ∧ ∀ i : Int, 0 ≤ i → i < bHm B → s.1 111 (1600 + i).toNat = Int32.ofInt (hcd B i))
def hc1 (c : Int) : Prop := (1000 ≤ c) ∨ (40 ≤ c ∧ c ≤ 43) ∨ (1 ≤ c ∧ c ≤ 6)
def Hv (B : Brd) : Prop := bHm B = -1 ∨ (0 ≤ bHm B ∧ bHm B ≤ 1600 ∧ tyL (hL B) [] = some [false] ∧ ∀ i : Int, 0 ≤ i → i < bHm B → hc1 (hcd B i))
def hEnv (t c f d : Int) : Int → Int := fun i => if i = 0 then t else if i = 1 then c else if i = 2 then f else d
def hraw (B : Brd) (t c f d : Int) : Int := (evL (hEnv t c f d) (fun _ => 0) (hL B) []).headD 0
def hvm (B : Brd) (t c f d : Int) : Int := if bHm B = -1 then t else if hraw B t c f d < 0 then 0 else hraw B t c f d
def HE (t c f d : Int) (s : ST) : Prop := s.2.1 65 71 = Int64.ofInt t ∧ s.2.1 65 72 = Int64.ofInt c ∧ s.2.1 65 73 = Int64.ofInt f ∧ s.1 112 0 = Int32.ofInt d
theorem HE_PF {t c f d : Int} {s s' : ST} (h : HE t c f d s) (hf : PF s s') : HE t c f d s' := ⟨(hf.2.1 65 71 (by omega)).trans h.1, (hf.2.1 65 72 (by omega)).trans h.2.1, (hf.2.1 65 73 (by omega)).trans h.2.2.1, (hf.1 112 0 (by omega)).trans h.2.2.2⟩
theorem MH_fr {B : Brd} {s s' : ST} (h : MH B s) (hf : ∀ o k : Nat, 109 ≤ o → o ≤ 111 → s'.1 o k = s.1 o k) : MH B s' := by
  rcases h with ⟨h1, h2⟩ | ⟨h1, h2, h3, h4, h5⟩
  · exact Or.inl ⟨h1, (hf 109 1 (by omega) (by omega)).trans h2⟩
  · exact Or.inr ⟨h1, h2, (hf 109 1 (by omega) (by omega)).trans h3, (hf 110 1 (by omega) (by omega)).trans h4, fun i i1 i2 => (hf 111 _ (by omega) (by omega)).trans (h5 i i1 i2)⟩
theorem h_partOf {t c f d : Int} {s : ST} (h : HE t c f d s) (hd0 : 0 ≤ d) (hd1 : d ≤ 1000) {i : Int} (h0 : 0 ≤ i) (h3 : i ≤ 3) : f_X10_qPartOf (Int32.ofInt i) (Int32.ofInt 0) s = some (Int64.ofInt (hEnv t c f d i), s) := by
  obtain ⟨h1, h2, h4, h5⟩ := h
  have hc : i = 0 ∨ i = 1 ∨ i = 2 ∨ i = 3 := by omega
  rcases hc with rfl | rfl | rfl | rfl
  · simp (disch := omega) only [f_X10_qPartOf, h1, n_i8, n_i16, n_0, n_31, n_add, n_sub, n_mul, n_neg, n_div, n_rem, n_le_t, n_le_f, n_lt_t, n_lt_f, n_eq_t, n_eq_f, n_cl, n_gd, n_gdt, n_nz, Int.reduceToNat, Int.reduceAdd, Int.reduceSub, Int.reduceMul, Int.reduceNeg, Int.reduceLT, Int.reduceLE, Int.reduceEq, Int.reduceDiv, Int.reduceMod, Nat.reduceAdd, Nat.reduceMul, ↓reduceIte, l_0, l_1, l_00, l_i, l_j, l_add, l_sub, l_mul, l_gt, l_ceq, l_clt, l_nz, n_l1, n_l2, n_l3, n_l4, n_l5, n_l6, n_l7, n_l8, n_l9, n_l10, n_l11, n_l12, n_l13, n_l14, n_l15, n_l16, n_l17, n_l18, n_l19, n_l20, n_l21, n_l22, n_l23, n_l24, n_l25, n_l26, n_l27, n_l28, n_l29, n_l30, n_l31, n_l32, n_l33, n_l34, n_l35, n_l36, n_l37, n_l38, n_l39, n_l40, n_l41, n_l42, n_l43, n_l44, n_l45, n_l46, n_l47, n_l48, n_l49, n_l50, n_l51, n_l52, n_l53, n_l54, n_l55, n_l56, n_l57, n_l58, n_l59, n_l60, hEnv]
  · simp (disch := omega) only [f_X10_qPartOf, h2, n_i8, n_i16, n_0, n_31, n_add, n_sub, n_mul, n_neg, n_div, n_rem, n_le_t, n_le_f, n_lt_t, n_lt_f, n_eq_t, n_eq_f, n_cl, n_gd, n_gdt, n_nz, Int.reduceToNat, Int.reduceAdd, Int.reduceSub, Int.reduceMul, Int.reduceNeg, Int.reduceLT, Int.reduceLE, Int.reduceEq, Int.reduceDiv, Int.reduceMod, Nat.reduceAdd, Nat.reduceMul, ↓reduceIte, l_0, l_1, l_00, l_i, l_j, l_add, l_sub, l_mul, l_gt, l_ceq, l_clt, l_nz, n_l1, n_l2, n_l3, n_l4, n_l5, n_l6, n_l7, n_l8, n_l9, n_l10, n_l11, n_l12, n_l13, n_l14, n_l15, n_l16, n_l17, n_l18, n_l19, n_l20, n_l21, n_l22, n_l23, n_l24, n_l25, n_l26, n_l27, n_l28, n_l29, n_l30, n_l31, n_l32, n_l33, n_l34, n_l35, n_l36, n_l37, n_l38, n_l39, n_l40, n_l41, n_l42, n_l43, n_l44, n_l45, n_l46, n_l47, n_l48, n_l49, n_l50, n_l51, n_l52, n_l53, n_l54, n_l55, n_l56, n_l57, n_l58, n_l59, n_l60, hEnv]
  · simp (disch := omega) only [f_X10_qPartOf, h4, n_i8, n_i16, n_0, n_31, n_add, n_sub, n_mul, n_neg, n_div, n_rem, n_le_t, n_le_f, n_lt_t, n_lt_f, n_eq_t, n_eq_f, n_cl, n_gd, n_gdt, n_nz, Int.reduceToNat, Int.reduceAdd, Int.reduceSub, Int.reduceMul, Int.reduceNeg, Int.reduceLT, Int.reduceLE, Int.reduceEq, Int.reduceDiv, Int.reduceMod, Nat.reduceAdd, Nat.reduceMul, ↓reduceIte, l_0, l_1, l_00, l_i, l_j, l_add, l_sub, l_mul, l_gt, l_ceq, l_clt, l_nz, n_l1, n_l2, n_l3, n_l4, n_l5, n_l6, n_l7, n_l8, n_l9, n_l10, n_l11, n_l12, n_l13, n_l14, n_l15, n_l16, n_l17, n_l18, n_l19, n_l20, n_l21, n_l22, n_l23, n_l24, n_l25, n_l26, n_l27, n_l28, n_l29, n_l30, n_l31, n_l32, n_l33, n_l34, n_l35, n_l36, n_l37, n_l38, n_l39, n_l40, n_l41, n_l42, n_l43, n_l44, n_l45, n_l46, n_l47, n_l48, n_l49, n_l50, n_l51, n_l52, n_l53, n_l54, n_l55, n_l56, n_l57, n_l58, n_l59, n_l60, hEnv]
  · simp (disch := omega) only [f_X10_qPartOf, h5, n_i8, n_i16, n_0, n_31, n_add, n_sub, n_mul, n_neg, n_div, n_rem, n_le_t, n_le_f, n_lt_t, n_lt_f, n_eq_t, n_eq_f, n_cl, n_gd, n_gdt, n_nz, Int.reduceToNat, Int.reduceAdd, Int.reduceSub, Int.reduceMul, Int.reduceNeg, Int.reduceLT, Int.reduceLE, Int.reduceEq, Int.reduceDiv, Int.reduceMod, Nat.reduceAdd, Nat.reduceMul, ↓reduceIte, l_0, l_1, l_00, l_i, l_j, l_add, l_sub, l_mul, l_gt, l_ceq, l_clt, l_nz, n_l1, n_l2, n_l3, n_l4, n_l5, n_l6, n_l7, n_l8, n_l9, n_l10, n_l11, n_l12, n_l13, n_l14, n_l15, n_l16, n_l17, n_l18, n_l19, n_l20, n_l21, n_l22, n_l23, n_l24, n_l25, n_l26, n_l27, n_l28, n_l29, n_l30, n_l31, n_l32, n_l33, n_l34, n_l35, n_l36, n_l37, n_l38, n_l39, n_l40, n_l41, n_l42, n_l43, n_l44, n_l45, n_l46, n_l47, n_l48, n_l49, n_l50, n_l51, n_l52, n_l53, n_l54, n_l55, n_l56, n_l57, n_l58, n_l59, n_l60, hEnv, Int.toNat_zero]
theorem hEnv_b {t c f d : Int} (h1 : lb t) (h2 : lb c) (h3 : lb f) (h4 : lb d) (i : Int) : lb (hEnv t c f d i) := by
  unfold hEnv
  split
  · exact h1
  · split
    · exact h2
    · split
      · exact h3
      · exact h4
theorem tyL_some {c : Int} {l : List Int} {T T' : List Bool} (h : tyL (c :: l) T = some T') : ∃ T1, ty1 c T = some T1 ∧ tyL l T1 = some T' := by
  have h : (ty1 c T).bind (tyL l) = some T' := h
  exact bd_some h
theorem ty1_len {c : Int} {T T' : List Bool} (h : ty1 c T = some T') (hl : T.length ≤ 60) : T'.length ≤ 60 := by
  unfold ty1 at h
  repeat' (split at h)
  all_goals first
    | (cases h; done)
    | (cases h; simp only [List.length_cons] at *; omega)
theorem m_harm_L {B : Brd} {t c f d : Int} (ht : lb t) (hc : lb c) (hf : lb f) (hd0 : 0 ≤ d) (hd1 : d ≤ 1000) (hm : bHm B ≤ 1600) (hcs : ∀ i : Int, 0 ≤ i → i < bHm B → hc1 (hcd B i)) (K : ST → Option (Int64 × ST)) : ∀ (n F : Nat) (i : Int) (T : List Bool) (st : List Int) (s : ST), MH B s → HE t c f d s → 0 ≤ i → (n : Int) = bHm B - i → n < F → PL st s → vts T st → T.length ≤ 60 → tyL ((upto n i).map (hcd B)) T = some [false] → ∃ s', PF s s' ∧ (∃ v, lb v ∧ evL (hEnv t c f d) (fun _ => 0) ((upto n i).map (hcd B)) st = [v] ∧ PL [v] s') ∧ f_X10_harmAt_L46 K F (Int32.ofInt i) s = K s' := by
  intro n
  induction n with
  | zero =>
    intro F i T st s h hE h0 hn hF hP hv hl hty
    obtain ⟨F, rfl⟩ : ∃ F', F = F' + 1 := ⟨F - 1, by omega⟩
    have hT : T = [false] := by
      have : some T = some [false] := hty
      injection this
    rcases h with ⟨h1, -⟩ | ⟨h1, h2, h3, h4, h5⟩
    · omega
    subst hT
    match st, hv with
    | [v], hv =>
      refine ⟨s, PF.rf s, ⟨v, hv.1.1, rfl, hP⟩, ?_⟩
      simp (disch := omega) only [f_X10_harmAt_L46, h4, n_i8, n_i16, n_0, n_31, n_add, n_sub, n_mul, n_neg, n_div, n_rem, n_le_t, n_le_f, n_lt_t, n_lt_f, n_eq_t, n_eq_f, n_cl, n_gd, n_gdt, n_nz, Int.reduceToNat, Int.reduceAdd, Int.reduceSub, Int.reduceMul, Int.reduceNeg, Int.reduceLT, Int.reduceLE, Int.reduceEq, Int.reduceDiv, Int.reduceMod, Nat.reduceAdd, Nat.reduceMul, ↓reduceIte, u_eq, u_no, u_nk, u_ek, u_2, u_3, j_1, j_3, j_eq, j_no, j_nk, lt_def, Option.bind_some]
  | succ n ih =>
    intro F i T st s h hE h0 hn hF hP hv hl hty
    obtain ⟨F, rfl⟩ : ∃ F', F = F' + 1 := ⟨F - 1, by omega⟩
    have hM := h
    rcases h with ⟨h1, -⟩ | ⟨h1, h2, h3, h4, h5⟩
    · omega
    have g5 := h5 i h0 (by omega)
    have hci := hcs i h0 (by omega)
    simp only [upto, List.map_cons] at hty ⊢
    obtain ⟨T1, ht1, ht2⟩ := tyL_some hty
    have hv1 := ev_ty (E := hEnv t c f d) (F := fun _ => 0) (fun i _ _ => hEnv_b ht hc hf ⟨by omega, by omega⟩ i) (fun _ _ => ⟨by omega, by omega⟩) hv ht1
    have hl1 := ty1_len ht1 hl
    have hlen := vts_len hv
    have next : ∀ s1 : ST, PF s s1 → PL (ev1 (hEnv t c f d) (fun _ => 0) (hcd B i) st) s1 → ∃ s', PF s s' ∧ (∃ v, lb v ∧ evL (hEnv t c f d) (fun _ => 0) (hcd B i :: (upto n (i + 1)).map (hcd B)) st = [v] ∧ PL [v] s') ∧ f_X10_harmAt_L46 K F (Int32.ofInt (i + 1)) s1 = K s' := by
      intro s1 hF1 hP1
      obtain ⟨s', q1, q2, q3⟩ := ih F (i + 1) T1 _ s1 (MH_fr hM (fun o k o1 o2 => hF1.1 o k (by omega))) (HE_PF hE hF1) (by omega) (by omega) (by omega) hP1 hv1 hl1 ht2
      exact ⟨s', hF1.tr q1, q2, q3⟩
    generalize hcd B i = w at *
    have hw : w ≤ 10999 := by
      rcases hci with hw | hw | hw
      · unfold ty1 at ht1
        rw [if_pos hw] at ht1
        split at ht1
        · rename_i hh; exact hh.1
        · cases ht1
      · omega
      · omega
    rcases hci with hw1 | ⟨hw1, hw2⟩ | ⟨hw1, hw2⟩
    · have e1 : ev1 (hEnv t c f d) (fun _ => 0) w st = (w - 1000) :: st := by unfold ev1; rw [if_pos hw1]
      obtain ⟨s1, q1, q2, q3⟩ := r_puts hP (by omega) (w - 1000)
      rw [e1] at next
      obtain ⟨s', q4, q5, q6⟩ := next s1 q3 q2
      refine ⟨s', q4, q5, ?_⟩
      simp (disch := omega) only [f_X10_harmAt_L46, h4, g5, q1, q6, n_i8, n_i16, n_0, n_31, n_add, n_sub, n_mul, n_neg, n_div, n_rem, n_le_t, n_le_f, n_lt_t, n_lt_f, n_eq_t, n_eq_f, n_cl, n_gd, n_gdt, n_nz, Int.reduceToNat, Int.reduceAdd, Int.reduceSub, Int.reduceMul, Int.reduceNeg, Int.reduceLT, Int.reduceLE, Int.reduceEq, Int.reduceDiv, Int.reduceMod, Nat.reduceAdd, Nat.reduceMul, ↓reduceIte, l_0, l_1, l_00, l_i, l_j, l_add, l_sub, l_mul, l_gt, l_ceq, l_clt, l_nz, u_eq, u_no, u_nk, u_ek, u_2, u_3, j_1, j_3, j_eq, j_no, j_nk, lt_def, Option.bind_some]
    · have e1 : ev1 (hEnv t c f d) (fun _ => 0) w st = hEnv t c f d (w - 40) :: st := by unfold ev1; rw [if_neg (by omega), if_neg (by omega), if_pos hw1]
      obtain ⟨s1, q1, q2, q3⟩ := r_puts hP (by omega) (hEnv t c f d (w - 40))
      rw [e1] at next
      obtain ⟨s', q4, q5, q6⟩ := next s1 q3 q2
      refine ⟨s', q4, q5, ?_⟩
      have hp := h_partOf hE hd0 hd1 (i := w - 40) (by omega) (by omega)
      simp (disch := omega) only [f_X10_harmAt_L46, h4, g5, hp, q1, q6, n_i8, n_i16, n_0, n_31, n_add, n_sub, n_mul, n_neg, n_div, n_rem, n_le_t, n_le_f, n_lt_t, n_lt_f, n_eq_t, n_eq_f, n_cl, n_gd, n_gdt, n_nz, Int.reduceToNat, Int.reduceAdd, Int.reduceSub, Int.reduceMul, Int.reduceNeg, Int.reduceLT, Int.reduceLE, Int.reduceEq, Int.reduceDiv, Int.reduceMod, Nat.reduceAdd, Nat.reduceMul, ↓reduceIte, l_0, l_1, l_00, l_i, l_j, l_add, l_sub, l_mul, l_gt, l_ceq, l_clt, l_nz, u_eq, u_no, u_nk, u_ek, u_2, u_3, j_1, j_3, j_eq, j_no, j_nk, lt_def, Option.bind_some]
    · have hT : ∃ r, T = false :: false :: r := by
        unfold ty1 at ht1
        rw [if_neg (by omega), if_neg (by omega), if_neg (by omega), if_neg (by omega), if_neg (by omega), if_pos ⟨hw1, hw2⟩] at ht1
        split at ht1
        · exact ⟨_, rfl⟩
        · cases ht1
      obtain ⟨r, rfl⟩ := hT
      match st, hv with
      | b :: a :: q, hv =>
        have e1 : ev1 (hEnv t c f d) (fun _ => 0) w (b :: a :: q) = jn w a b :: q := by unfold ev1; rw [if_neg (by omega), if_neg (by omega), if_neg (by omega), if_neg (by omega), if_neg (by omega)]
        rw [List.length_cons, List.length_cons] at hlen
        obtain ⟨s1, q1, q2, q3⟩ := r_joins (c := w) hP (by simp only [List.length_cons] at hl hlen; omega) hv.2.1.1 hv.1.1 hw1 (by omega)
        rw [e1] at next
        obtain ⟨s', q4, q5, q6⟩ := next s1 q3 q2
        refine ⟨s', q4, q5, ?_⟩
        simp (disch := omega) only [f_X10_harmAt_L46, h4, g5, q1, q6, n_i8, n_i16, n_0, n_31, n_add, n_sub, n_mul, n_neg, n_div, n_rem, n_le_t, n_le_f, n_lt_t, n_lt_f, n_eq_t, n_eq_f, n_cl, n_gd, n_gdt, n_nz, Int.reduceToNat, Int.reduceAdd, Int.reduceSub, Int.reduceMul, Int.reduceNeg, Int.reduceLT, Int.reduceLE, Int.reduceEq, Int.reduceDiv, Int.reduceMod, Nat.reduceAdd, Nat.reduceMul, ↓reduceIte, l_0, l_1, l_00, l_i, l_j, l_add, l_sub, l_mul, l_gt, l_ceq, l_clt, l_nz, u_eq, u_no, u_nk, u_ek, u_2, u_3, j_1, j_3, j_eq, j_no, j_nk, lt_def, Option.bind_some]
/-- what harmAt may change -/
def HF (s s' : ST) : Prop := (∀ o k : Nat, ¬ (o = 65 ∧ (k = 117 ∨ k = 59)) → s'.1 o k = s.1 o k) ∧ (∀ o k : Nat, ¬ o = 148 → ¬ (o = 65 ∧ k = 73) → s'.2.1 o k = s.2.1 o k) ∧ s'.2.2 = s.2.2
theorem HF.rf (s : ST) : HF s s := ⟨fun _ _ _ => rfl, fun _ _ _ _ => rfl, rfl⟩
theorem HF.tr {s t u : ST} (h1 : HF s t) (h2 : HF t u) : HF s u := ⟨fun o k hk => (h2.1 o k hk).trans (h1.1 o k hk), fun o k hk hk' => (h2.2.1 o k hk hk').trans (h1.2.1 o k hk hk'), h2.2.2.trans h1.2.2⟩
theorem farO_b {x y a b : Int} (h1 : -10 ≤ x) (h2 : x ≤ 10) (h3 : -10 ≤ y) (h4 : y ≤ 10) (h5 : -10 ≤ a) (h6 : a ≤ 10) (h7 : -10 ≤ b) (h8 : b ≤ 10) : 0 ≤ farO x y a b ∧ farO x y a b ≤ 20 := by
  unfold farO ab
  repeat' split
  all_goals omega
theorem m_harmAt {B : Brd} {s : ST} (hH : MH B s) (hV : Hv B) {t c d : Int} (h1 : s.2.1 65 71 = Int64.ofInt t) (h2 : s.2.1 65 72 = Int64.ofInt c) (h3 : s.1 112 0 = Int32.ofInt d) (ht : lb t) (ht0 : 0 ≤ t) (hc : lb c) (hd0 : 0 ≤ d) (hd1 : d ≤ 1000) {x y a b : Int} (x1 : -10 ≤ x) (x2 : x ≤ 10) (y1 : -10 ≤ y) (y2 : y ≤ 10) (a1 : -10 ≤ a) (a2 : a ≤ 10) (b1 : -10 ≤ b) (b2 : b ≤ 10) : ∃ s', f_X10_harmAt (Int32.ofInt x) (Int32.ofInt y) (Int32.ofInt a) (Int32.ofInt b) s = some (Int64.ofInt (hvm B t c (farO x y a b) d), s') ∧ HF s s' ∧ 0 ≤ hvm B t c (farO x y a b) d ∧ hvm B t c (farO x y a b) d ≤ 1000000 := by
  have hfar := farO_b x1 x2 y1 y2 a1 a2 b1 b2
  rcases hH with ⟨g1, g2⟩ | ⟨g1, g2, g3, g4, g5⟩
  · refine ⟨s, ?_, HF.rf s, ?_⟩
    · unfold hvm
      rw [if_pos g1]
      simp (disch := omega) only [f_X10_harmAt, g2, h1, n_i8, n_i16, n_0, n_31, n_add, n_sub, n_mul, n_neg, n_div, n_rem, n_le_t, n_le_f, n_lt_t, n_lt_f, n_eq_t, n_eq_f, n_cl, n_gd, n_gdt, n_nz, Int.reduceToNat, Int.reduceAdd, Int.reduceSub, Int.reduceMul, Int.reduceNeg, Int.reduceLT, Int.reduceLE, Int.reduceEq, Int.reduceDiv, Int.reduceMod, Nat.reduceAdd, Nat.reduceMul, ↓reduceIte, u_eq, u_no, u_nk, u_ek, u_2, u_3, j_1, j_3, j_eq, j_no, j_nk, lt_def, Option.bind_some]
    · unfold hvm
      rw [if_pos g1]
      unfold lb at ht
      omega
  · rcases hV with hv | ⟨-, -, v3, v4⟩
    · omega
    have hfo := m_farOff (s := s) (x := x) (y := y) (a := a) (b := b) (by omega) (by omega) (by omega) (by omega) (by omega) (by omega) (by omega) (by omega)
    generalize farO x y a b = f at *
    have hH : MH B s := Or.inr ⟨g1, g2, g3, g4, g5⟩
    have hF1 : HF s (uI (uI (uJ s 65 73 (Int64.ofInt f)) 65 59 (Int32.ofInt 1)) 65 117 (Int32.ofInt 0)) := by
      refine ⟨fun o k hk => ?_, fun o k hk hk' => ?_, rfl⟩
      · by_cases e : o = 65
        · rw [u_nk (by omega), u_nk (by omega), j_1]
        · rw [u_no e, u_no e, j_1]
      · rw [u_2, u_2]
        by_cases e : o = 65
        · rw [j_nk (by omega)]
        · rw [j_no e]
    have hE : HE t c f d (uI (uI (uJ s 65 73 (Int64.ofInt f)) 65 59 (Int32.ofInt 1)) 65 117 (Int32.ofInt 0)) := by
      refine ⟨(hF1.2.1 65 71 (by omega) (by omega)).trans h1, (hF1.2.1 65 72 (by omega) (by omega)).trans h2, ?_, (hF1.1 112 0 (by omega)).trans h3⟩
      rw [u_2, u_2, j_eq]
    obtain ⟨s', q1, ⟨v, q2, q3, q4⟩, q5⟩ := m_harm_L (B := B) ht hc (f := f) ⟨by omega, by omega⟩ hd0 hd1 g2 v4 f_X10_harmAt_j128 (bHm B).toNat fuel 0 [] [] _ (MH_fr hH (fun o k o1 o2 => hF1.1 o k (by omega))) hE (by omega) (by omega) (by unfold fuel; omega) ⟨u_eq _ _ _ _, trivial⟩ trivial (by simp) v3
    have hvv : hraw B t c f d = v := by
      unfold hraw hL
      rw [q3]
      rfl
    have hp : s'.2.1 148 0 = Int64.ofInt v := q4.2.1
    have hs : HF s s' := hF1.tr ⟨fun o k hk => q1.1 o k (by omega), fun o k hk _ => q1.2.1 o k hk, q1.2.2⟩
    unfold lb at q2
    have g3' : (uI (uI (uJ s 65 73 (Int64.ofInt f)) 65 59 (Int32.ofInt 1)) 65 117 (Int32.ofInt 0)).1 109 1 = Int32.ofInt 0 := (hF1.1 109 1 (by omega)).trans g3
    refine ⟨s', ?_, hs, ?_⟩
    · unfold hvm
      rw [if_neg (by omega), hvv]
      by_cases e : v < 0
      · rw [if_pos e]
        simp (disch := omega) only [f_X10_harmAt, f_X10_harmAt_j128, g3, g3', hfo, q5, hp, n_i8, n_i16, n_0, n_31, n_add, n_sub, n_mul, n_neg, n_div, n_rem, n_le_t, n_le_f, n_lt_t, n_lt_f, n_eq_t, n_eq_f, n_cl, n_gd, n_gdt, n_nz, Int.reduceToNat, Int.reduceAdd, Int.reduceSub, Int.reduceMul, Int.reduceNeg, Int.reduceLT, Int.reduceLE, Int.reduceEq, Int.reduceDiv, Int.reduceMod, Nat.reduceAdd, Nat.reduceMul, ↓reduceIte, l_0, l_1, l_00, l_i, l_j, l_add, l_sub, l_mul, l_gt, l_ceq, l_clt, l_nz, lt_def, Option.bind_some, Int.toNat_zero]
      · rw [if_neg e]
        by_cases e2 : v = 0
        · simp (disch := omega) only [f_X10_harmAt, f_X10_harmAt_j128, g3, g3', hfo, q5, hp, n_i8, n_i16, n_0, n_31, n_add, n_sub, n_mul, n_neg, n_div, n_rem, n_le_t, n_le_f, n_lt_t, n_lt_f, n_eq_t, n_eq_f, n_cl, n_gd, n_gdt, n_nz, Int.reduceToNat, Int.reduceAdd, Int.reduceSub, Int.reduceMul, Int.reduceNeg, Int.reduceLT, Int.reduceLE, Int.reduceEq, Int.reduceDiv, Int.reduceMod, Nat.reduceAdd, Nat.reduceMul, ↓reduceIte, l_0, l_1, l_00, l_i, l_j, l_add, l_sub, l_mul, l_gt, l_ceq, l_clt, l_nz, lt_def, Option.bind_some, Int.toNat_zero]
        · simp (disch := omega) only [f_X10_harmAt, f_X10_harmAt_j128, g3, g3', hfo, q5, hp, n_i8, n_i16, n_0, n_31, n_add, n_sub, n_mul, n_neg, n_div, n_rem, n_le_t, n_le_f, n_lt_t, n_lt_f, n_eq_t, n_eq_f, n_cl, n_gd, n_gdt, n_nz, Int.reduceToNat, Int.reduceAdd, Int.reduceSub, Int.reduceMul, Int.reduceNeg, Int.reduceLT, Int.reduceLE, Int.reduceEq, Int.reduceDiv, Int.reduceMod, Nat.reduceAdd, Nat.reduceMul, ↓reduceIte, l_0, l_1, l_00, l_i, l_j, l_add, l_sub, l_mul, l_gt, l_ceq, l_clt, l_nz, lt_def, Option.bind_some, Int.toNat_zero]
    · unfold hvm
      rw [if_neg (by omega), hvv]
      split <;> omega
