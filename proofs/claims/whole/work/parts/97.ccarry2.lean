/-! L3: a move as the class makes it -/
theorem smL_congr {f g : Int → Int} : ∀ {l : List Int}, (∀ j ∈ l, f j = g j) → smL f l = smL g l
  | [], _ => rfl
  | j :: l, h => by simp only [smL]; rw [h j List.mem_cons_self, smL_congr (fun k hk => h k (List.mem_cons_of_mem _ hk))]
theorem smL_one {f g : Int → Int} {t : Int} (hfg : ∀ j, ¬ j = t → f j = g j) : ∀ (n : Nat) (i : Int), smL f (upto n i) = smL g (upto n i) + (if i ≤ t ∧ t < i + n then f t - g t else 0)
  | 0, i => by rw [if_neg (by omega)]; rfl
  | n + 1, i => by
    have ih := smL_one hfg n (i + 1)
    simp only [upto, smL]
    rw [ih]
    by_cases e : i = t
    · subst e
      rw [if_neg (by omega), if_pos (by omega)]
      omega
    · rw [hfg i e]
      by_cases e2 : i + 1 ≤ t ∧ t < i + 1 + n
      · rw [if_pos e2, if_pos (by omega)]; omega
      · rw [if_neg e2, if_neg (by omega)]; omega
/-- a move that can be made -/
def okM (B : Brd) (G : Gam) (m x y : Int) : Prop := (0 ≤ m ∧ m < bM B) ∧ (0 ≤ x ∧ x < bW B) ∧ (0 ≤ y ∧ y < bH B) ∧ go B G m x y = true
theorem okM_f {B : Brd} {G : Gam} (hB : Bv B) (hG : Gv B G) {m x y : Int} (h : okM B G m x y) : (0 ≤ gx G m ∧ gx G m < bW B ∧ 0 ≤ gy G m ∧ gy G m < bH B) ∧ ¬ (x = gx G m ∧ y = gy G m) ∧ (mAt B G x y = -1 ∨ (0 ≤ mAt B G x y ∧ mAt B G x y < bM B ∧ gx G (mAt B G x y) = x ∧ gy G (mAt B G x y) = y ∧ ¬ sd B (mAt B G x y) = sd B m ∧ ¬ mAt B G x y = m)) := by
  obtain ⟨⟨m0, m1⟩, ⟨x0, x1⟩, ⟨y0, y1⟩, hg⟩ := h
  have hM0 : 0 ≤ bM B := hB.1.1.2.2.2.2.2.2.1
  have hs := go_spec hg
  have hp := hG.2.1 m m0 m1
  have hsp := mAt_spec (B := B) hM0 G x y
  refine ⟨by omega, hs.2.1, ?_⟩
  rcases hsp with ⟨a, -⟩ | ⟨a, b, c, d⟩
  · exact Or.inl a
  · right
    rcases hs.2.2 with e | e
    · omega
    · refine ⟨a, b, c, d, e, fun e2 => ?_⟩
      rw [e2] at e
      exact e rfl
theorem mvG_pl {B : Brd} {G : Gam} {m x y : Int} (x0 : 0 ≤ x) (j : Int) : pl (mvG B G m x y) j = if j = m then 5 * y + x else if j = mAt B G x y then -1 else pl G j := by
  unfold pl
  rw [mvG_x, mvG_y]
  by_cases e : j = m
  · simp only [if_pos e]
    rw [if_neg (by omega)]
  · simp only [if_neg e]
    by_cases e2 : j = mAt B G x y
    · simp only [if_pos e2, ↓reduceIte]
    · simp only [if_neg e2]
theorem mvG_mAt {B : Brd} {G : Gam} (hB : Bv B) (hG : Gv B G) {m x y : Int} (h : okM B G m x y) {a b : Int} (a0 : 0 ≤ a) (b0 : 0 ≤ b) : mAt B (mvG B G m x y) a b = if a = x ∧ b = y then m else if a = gx G m ∧ b = gy G m then -1 else mAt B G a b := by
  have hM0 : 0 ≤ bM B := hB.1.1.2.2.2.2.2.2.1
  obtain ⟨f1, f2, f3⟩ := okM_f hB hG h
  obtain ⟨⟨m0, m1⟩, ⟨x0, x1⟩, ⟨y0, y1⟩, hg⟩ := h
  have hv := mvG_v hB hG m0 m1 x0 x1 y0 y1
  by_cases e1 : a = x ∧ b = y
  · rw [if_pos e1]
    exact mAt_u hM0 hv.2.2.1 m0 m1 (by rw [mvG_x, if_pos rfl, e1.1]) (by rw [mvG_y, if_pos rfl, e1.2]) a0
  · rw [if_neg e1]
    have hsp := mAt_spec (B := B) hM0 (mvG B G m x y) a b
    by_cases e2 : a = gx G m ∧ b = gy G m
    · rw [if_pos e2]
      rcases hsp with ⟨p, -⟩ | ⟨p, q, r, t⟩
      · exact p
      · exfalso
        generalize mAt B (mvG B G m x y) a b = j at *
        rw [mvG_x] at r
        rw [mvG_y] at t
        by_cases c1 : j = m
        · rw [if_pos c1] at r t
          exact e1 ⟨r.symm, t.symm⟩
        · rw [if_neg c1] at r t
          by_cases c2 : j = mAt B G x y
          · rw [if_pos c2] at r; omega
          · rw [if_neg c2] at r t
            exact c1 (hG.2.2.1 j m p q m0 m1 (by omega) (by omega) (by omega))
    · rw [if_neg e2]
      have hsp2 := mAt_spec (B := B) hM0 G a b
      rcases hsp2 with ⟨p, q⟩ | ⟨p, q, r, t⟩
      · rw [p]
        rcases hsp with ⟨p', -⟩ | ⟨p', q', r', t'⟩
        · exact p'
        · exfalso
          generalize mAt B (mvG B G m x y) a b = j at *
          rw [mvG_x] at r'
          rw [mvG_y] at t'
          by_cases c1 : j = m
          · rw [if_pos c1] at r' t'
            exact e1 ⟨r'.symm, t'.symm⟩
          · rw [if_neg c1] at r' t'
            by_cases c2 : j = mAt B G x y
            · rw [if_pos c2] at r'; omega
            · rw [if_neg c2] at r' t'
              exact q j p' q' ⟨r', t'⟩
      · generalize hj : mAt B G a b = j at *
        have c1 : ¬ j = m := fun c => by rw [c] at r t; exact e2 ⟨r.symm, t.symm⟩
        have c2 : ¬ j = mAt B G x y := fun c => by
          rcases f3 with f3 | f3
          · omega
          · rw [c] at r t; exact e1 ⟨by omega, by omega⟩
        exact mAt_u hM0 hv.2.2.1 p q (by rw [mvG_x, if_neg c1, if_neg c2]; exact r) (by rw [mvG_y, if_neg c1, if_neg c2]; exact t) a0
theorem mAt_from {B : Brd} {G : Gam} (hB : Bv B) (hG : Gv B G) {m : Int} (m0 : 0 ≤ m) (m1 : m < bM B) (hx : 0 ≤ gx G m) : mAt B G (gx G m) (gy G m) = m := mAt_u hB.1.1.2.2.2.2.2.2.1 hG.2.2.1 m0 m1 rfl rfl hx
theorem mvG_occ {B : Brd} {G : Gam} (hB : Bv B) (hG : Gv B G) {m x y : Int} (h : okM B G m x y) {u r : Int} (r0 : 0 ≤ r) (r1 : r < 25) : occ B (mvG B G m x y) u r = if r = 5 * y + x then decide (sd B m = u) else if r = pl G m then false else occ B G u r := by
  have hW : bW B ≤ 5 := hB.1.1.2.1
  have hH : bH B ≤ 5 := hB.1.1.2.2.2.1
  obtain ⟨f1, f2, f3⟩ := okM_f hB hG h
  have hp := pl_b hB hG h.1.1 h.1.2
  have hm := mvG_mAt hB hG h (a := r % 5) (b := r / 5) (by omega) (by omega)
  obtain ⟨⟨m0, m1⟩, ⟨x0, x1⟩, ⟨y0, y1⟩, hg⟩ := h
  unfold occ
  rw [hm]
  by_cases e1 : r = 5 * y + x
  · rw [if_pos e1, if_pos ⟨by omega, by omega⟩, decide_eq_true (by omega), Bool.true_and]
  · rw [if_neg e1, if_neg (fun c => e1 (by omega))]
    by_cases e2 : r = pl G m
    · rw [if_pos e2, if_pos ⟨by omega, by omega⟩, decide_eq_false (by simp), Bool.false_and]
    · rw [if_neg e2, if_neg (fun c => e2 (by omega))]
theorem occ_at {B : Brd} {G : Gam} (hB : Bv B) (hG : Gv B G) {m u : Int} (m0 : 0 ≤ m) (m1 : m < bM B) (hx : ¬ gx G m = -1) : occ B G u (pl G m) = decide (sd B m = u) := by
  have hp := pl_b hB hG m0 m1
  unfold occ
  rcases hp with ⟨a, -⟩ | ⟨a, b, c, d, e, f, g, i, j⟩
  · exact absurd a hx
  · rw [i, j, mAt_from hB hG m0 m1 a, decide_eq_true (by omega), Bool.true_and]
theorem mvG_bal {B : Brd} {G : Gam} (hB : Bv B) (hG : Gv B G) {m x y : Int} (h : okM B G m x y) : bal B (mvG B G m x y) 0 = bal B G 0 - (if mAt B G x y = -1 then 0 else ldV B (mAt B G x y)) := by
  have hM0 : 0 ≤ bM B := hB.1.1.2.2.2.2.2.2.1
  obtain ⟨f1, f2, f3⟩ := okM_f hB hG h
  obtain ⟨⟨m0, m1⟩, ⟨x0, x1⟩, ⟨y0, y1⟩, hg⟩ := h
  unfold bal mens
  have hne : ∀ j, ¬ j = mAt B G x y → bal1 B (mvG B G m x y) 0 j = bal1 B G 0 j := by
    intro j hj
    unfold bal1
    rw [mvG_x]
    by_cases e : j = m
    · have ha : ¬ x = -1 := by omega
      have hb : ¬ gx G m = -1 := by omega
      simp only [e, ↓reduceIte, if_neg ha, if_neg hb]
    · simp only [if_neg e, if_neg hj]
  rw [smL_one hne]
  rcases f3 with f3 | ⟨g1, g2, g3, g4, g5, g6⟩
  · rw [if_neg (by omega), if_pos f3]; omega
  · rw [if_pos ⟨by omega, by omega⟩, if_neg (by omega)]
    have e1 : bal1 B (mvG B G m x y) 0 (mAt B G x y) = 0 := by
      unfold bal1
      rw [mvG_x, if_neg g6, if_pos rfl, if_pos rfl]
    have e2 : bal1 B G 0 (mAt B G x y) = ldV B (mAt B G x y) := by
      unfold bal1 ldV
      rw [if_neg (by omega)]
    rw [e1, e2]; omega
theorem mvG_ctn {B : Brd} {G : Gam} (hB : Bv B) (hG : Gv B G) {m x y : Int} (h : okM B G m x y) : ctn B (mvG B G m x y) = ctn B G + (if mAt B G x y = -1 then 0 else b1 (isCr B (mAt B G x y))) := by
  have hM0 : 0 ≤ bM B := hB.1.1.2.2.2.2.2.2.1
  obtain ⟨f1, f2, f3⟩ := okM_f hB hG h
  obtain ⟨⟨m0, m1⟩, ⟨x0, x1⟩, ⟨y0, y1⟩, hg⟩ := h
  unfold ctn mens
  have hne : ∀ j, ¬ j = mAt B G x y → (fun m' => b1 (isCr B m' && tk (mvG B G m x y) m')) j = (fun m' => b1 (isCr B m' && tk G m')) j := by
    intro j hj
    show b1 (isCr B j && tk (mvG B G m x y) j) = b1 (isCr B j && tk G j)
    unfold tk
    rw [mvG_x]
    by_cases e : j = m
    · rw [if_pos e, decide_eq_false (by omega), e, decide_eq_false (show ¬ gx G m = -1 by omega)]
    · rw [if_neg e, if_neg hj]
  rw [smL_one hne]
  rcases f3 with f3 | ⟨g1, g2, g3, g4, g5, g6⟩
  · rw [if_neg (by omega), if_pos f3]
  · rw [if_pos ⟨by omega, by omega⟩, if_neg (by omega)]
    have e1 : tk (mvG B G m x y) (mAt B G x y) = true := by
      unfold tk
      rw [mvG_x, if_neg g6, if_pos rfl]
      rfl
    have e2 : tk G (mAt B G x y) = false := by
      unfold tk
      exact decide_eq_false (by omega)
    rw [e1, e2, Bool.and_true, Bool.and_false]
    show _ + (b1 _ - 0) = _
    omega
theorem ct_ctn {B : Brd} (G : Gam) : 0 ≤ ctn B G ∧ (ctn B G = 0 ↔ ct B G = false) := by
  unfold ctn ct
  have key : ∀ l : List Int, 0 ≤ smL (fun m => b1 (isCr B m && tk G m)) l ∧ (smL (fun m => b1 (isCr B m && tk G m)) l = 0 ↔ l.any (fun m => isCr B m && tk G m) = false) := by
    intro l
    induction l with
    | nil => exact ⟨Int.le_refl 0, by simp [smL]⟩
    | cons m l ih =>
      simp only [smL, List.any_cons]
      cases isCr B m && tk G m with
      | true => exact ⟨by show 0 ≤ 1 + _; omega, by show (1 + _ = (0 : Int)) ↔ _; simp; omega⟩
      | false =>
        rw [Bool.false_or]
        exact ⟨by show 0 ≤ 0 + _; omega, by show (0 + _ = (0 : Int)) ↔ _; rw [Int.zero_add]; exact ih.2⟩
  exact key _
theorem ctn_b {B : Brd} (hB : Bv B) (G : Gam) : 0 ≤ ctn B G ∧ ctn B G ≤ 8 := by
  have hM : bM B ≤ 8 := hB.1.1.2.2.2.2.2.2.2.1
  have h1 := (ct_ctn (B := B) G).1
  have : ∀ (n : Nat) (i : Int), smL (fun m => b1 (isCr B m && tk G m)) (upto n i) ≤ n := by
    intro n
    induction n with
    | zero => intro i; exact Int.le_refl 0
    | succ n ih =>
      intro i
      have := ih (i + 1)
      simp only [upto, smL]
      have : b1 (isCr B i && tk G i) ≤ 1 := by cases isCr B i && tk G i <;> decide
      omega
  have := this (bM B).toNat 0
  refine ⟨h1, ?_⟩
  unfold ctn mens
  omega
theorem c_carry {B : Brd} {G : Gam} {o p : Nat} {s : ST} (h : GA B G o p s) {m x y : Int} (hk : okM B G m x y) : ∃ s', f_X3_carry o (Int32.ofInt m) (Int32.ofInt (5 * y + x)) s = some (Int32.ofInt (mAt B G x y), s') ∧ GA B (mvG B G m x y) o p s' ∧ Fm o s s' := by
  obtain ⟨⟨hB, hG⟩, ⟨ho, hp⟩, hP, hPB, hRP⟩ := h
  have hM : bM B ≤ 8 := hB.1.1.2.2.2.2.2.2.2.1
  have hW : bW B ≤ 5 := hB.1.1.2.1
  have hH : bH B ≤ 5 := hB.1.1.2.2.2.1
  obtain ⟨f1, f2, f3⟩ := okM_f hB hG hk
  have hkk := hk
  obtain ⟨⟨m0, m1⟩, ⟨x0, x1⟩, ⟨y0, y1⟩, hg⟩ := hkk
  have hv := mvG_v hB hG m0 m1 x0 x1 y0 y1
  have hpl := pl_b hB hG m0 m1
  have hq : 0 ≤ 5 * y + x ∧ 5 * y + x < 25 := by omega
  have hst : s.1 (o + 4) (5 * y + x).toNat = Int32.ofInt (mAt B G x y) := by
    rw [hRP.2.1 (5 * y + x) hq.1 hq.2]
    show Int32.ofInt (mAt B G ((5 * y + x) % 5) ((5 * y + x) / 5)) = _
    rw [show (5 * y + x) % 5 = x by omega, show (5 * y + x) / 5 = y by omega]
  have hplm : 0 ≤ pl G m ∧ pl G m < 25 := by omega
  have hsdm := hB.2.2.1 m m0 m1
  -- the picture behind
  have fin : ∀ (P : Int → Int) (S : Int → Int) (H : Int → Int → Bool) (l c : Int) (s' : ST), Fm o s s' → RP B o P S H l c s' → (∀ j, 0 ≤ j → j < bM B → P j = if j = m then 5 * y + x else if j = mAt B G x y then -1 else pl G j) → (∀ r, S r = if r = 5 * y + x then m else if r = pl G m then -1 else mAt B G (r % 5) (r / 5)) → (∀ u r, 0 ≤ u → u ≤ 1 → 0 ≤ r → r < 25 → H u r = if r = 5 * y + x then decide (sd B m = u) else if r = pl G m then false else occ B G u r) → l = bal B (mvG B G m x y) 0 → c = ctn B (mvG B G m x y) → GA B (mvG B G m x y) o p s' := by
    intro P S H l c s' hF hR h1 h2 h3 h4 h5
    refine ⟨⟨hB, hv⟩, ⟨ho, hp⟩, by rw [hF.2]; exact hP, PB_Fm ho hp hPB hF, RP_congr hR (fun j j0 j1 => ?_) (fun r r0 r1 => ?_) (fun u r u0 u1 r0 r1 => ?_) h4 h5⟩
    · rw [h1 j j0 j1, mvG_pl x0]
    · show S r = mAt B (mvG B G m x y) (r % 5) (r / 5)
      rw [h2, mvG_mAt hB hG hk (by omega) (by omega)]
      by_cases e1 : r = 5 * y + x
      · have e1' : r % 5 = x ∧ r / 5 = y := by omega
        simp only [if_pos e1, if_pos e1']
      · have e1' : ¬ (r % 5 = x ∧ r / 5 = y) := by omega
        simp only [if_neg e1, if_neg e1']
        by_cases e2 : r = pl G m
        · have e2' : r % 5 = gx G m ∧ r / 5 = gy G m := by omega
          simp only [if_pos e2, if_pos e2']
        · have e2' : ¬ (r % 5 = gx G m ∧ r / 5 = gy G m) := by omega
          simp only [if_neg e2, if_neg e2']
    · rw [h3 u r u0 u1 r0 r1, mvG_occ hB hG hk r0 r1]
  by_cases e : mAt B G x y = -1
  · have hcm : s.1 (o + 2) m.toNat = Int32.ofInt (pl G m) := hRP.1 m m0 m1
    obtain ⟨s1, q1, q2, q3⟩ := c_lift hB ho hp hP hPB hRP m0 m1 hplm.1 hplm.2
    obtain ⟨s2, q4, q5, q6⟩ := c_set hB ho hp (by rw [q3.2]; exact hP) (PB_Fm ho hp hPB q3) q2 m0 m1 hq.1 hq.2
    refine ⟨s2, ?_, fin _ _ _ _ _ s2 (q3.tr q6) q5 (fun j j0 j1 => ?_) (fun r => ?_) (fun u r u0 u1 r0 r1 => ?_) ?_ ?_, q3.tr q6⟩
    · rw [e] at hst ⊢
      simp (disch := omega) only [f_X3_carry, f_X3_carry_j56, hst, hcm, q1, q4, g_kk, g_k1, g_n1, g_k2, g_n2, g_k3, g_n3, g_k4, g_n4, g_k5, g_n5, g_k7, g_n7, g_k8, g_n8, g_k9, g_n9, g_k6, g_r3, g_r4, g_r5, g_r6, g_r7, g_r10, g_q0, g_q1, g_q2, p_kk, p_k1, p_n1, p_k2, p_n2, p_k3, p_n3, p_k4, p_n4, p_k5, p_n5, p_k6, p_n6, p_k7, p_n7, p_k8, p_n8, p_k9, p_n9, p_k10, p_n10, p_k11, p_n11, p_k13, p_n13, p_k12, p_r2, p_r4, p_r5, p_r6, p_r7, p_r9, p_r10, p_r11, p_r13, p_r14, p_r15, p_r16, p_h0, n_i8, n_i16, n_0, n_31, n_add, n_sub, n_mul, n_neg, n_div, n_rem, n_le_t, n_le_f, n_lt_t, n_lt_f, n_eq_t, n_eq_f, n_cl, n_gd, n_gdt, n_nz, Int.reduceToNat, Int.reduceAdd, Int.reduceSub, Int.reduceMul, Int.reduceNeg, Int.reduceLT, Int.reduceLE, Int.reduceEq, Int.reduceDiv, Int.reduceMod, Nat.reduceAdd, Nat.reduceMul, ↓reduceIte, u_eq, u_no, u_nk, u_ek, u_2, u_3, j_1, j_3, j_eq, j_no, j_nk, ltd, bnd]
    · unfold setP
      by_cases c1 : j = m
      · simp only [if_pos c1]
      · have c2 : ¬ j = mAt B G x y := by omega
        simp only [if_neg c1, if_neg c2]
    · unfold setP
      by_cases c1 : r = 5 * y + x
      · simp only [if_pos c1]
      · simp only [if_neg c1]
    · unfold addH remH
      have hoq : occ B G u (5 * y + x) = false := by
        unfold occ
        rw [show (5 * y + x) % 5 = x by omega, show (5 * y + x) / 5 = y by omega, e, decide_eq_false (by simp), Bool.false_and]
      have hof := occ_at hB hG m0 m1 (u := u) (show ¬ gx G m = -1 by omega)
      by_cases c0 : u = sd B m
      · rw [if_pos c0, if_pos c0]
        by_cases c1 : r = 5 * y + x
        · rw [if_pos c1, decide_eq_true c1, Bool.or_true, decide_eq_true c0.symm]
        · rw [if_neg c1, decide_eq_false c1, Bool.or_false]
          by_cases c2 : r = pl G m
          · rw [if_pos c2, decide_eq_true c2, Bool.not_true, Bool.and_false]
          · rw [if_neg c2, decide_eq_false c2, Bool.not_false, Bool.and_true]
      · rw [if_neg c0, if_neg c0]
        by_cases c1 : r = 5 * y + x
        · rw [if_pos c1, c1, hoq, decide_eq_false (fun c => c0 c.symm)]
        · rw [if_neg c1]
          by_cases c2 : r = pl G m
          · rw [if_pos c2, c2, hof, decide_eq_false (fun c => c0 c.symm)]
          · rw [if_neg c2]
    · rw [mvG_bal hB hG hk, if_pos e]; omega
    · rw [mvG_ctn hB hG hk, if_pos e]; omega
  · rcases f3 with f3 | ⟨g1, g2, g3, g4, g5, g6⟩
    · exact absurd f3 e
    have htk : mAt B G x y = mAt B G x y := rfl
    generalize ht : mAt B G x y = t at *
    have hsdt := hB.2.2.1 t g1 g2
    have hplt := pl_b hB hG g1 g2
    obtain ⟨s1, q1, q2, q3⟩ := c_lift hB ho hp hP hPB hRP g1 g2 hq.1 hq.2
    have hP1 : RR s1.2.2 o 0 = some p := by rw [q3.2]; exact hP
    have hPB1 := PB_Fm ho hp hPB q3
    have hld := c_leadOf hB ho hp hP1 hPB1 g1 g2
    have l8 := q2.2.2.2.1
    have q2b := RP_l q2 (bal B G 0 - ldV B t)
    have F2 := q3.tr (Fm_8 o s1 (Int32.ofInt (bal B G 0 - ldV B t)))
    have hPB2 := PB_Fm ho hp hPB F2
    have hcr := c_isCrown hB hp hPB2 g1 g2
    have l9 : (uI s1 o 8 (Int32.ofInt (bal B G 0 - ldV B t))).1 o 9 = Int32.ofInt (ctn B G) := q2b.2.2.2.2
    have q2c := RP_c q2b (ctn B G + b1 (isCr B t))
    have F3 := F2.tr (Fm_9 o (uI s1 o 8 (Int32.ofInt (bal B G 0 - ldV B t))) (Int32.ofInt (ctn B G + b1 (isCr B t))))
    have hP3 : RR (uI (uI s1 o 8 (Int32.ofInt (bal B G 0 - ldV B t))) o 9 (Int32.ofInt (ctn B G + b1 (isCr B t)))).2.2 o 0 = some p := hP1
    have hcm : (uI (uI s1 o 8 (Int32.ofInt (bal B G 0 - ldV B t))) o 9 (Int32.ofInt (ctn B G + b1 (isCr B t)))).1 (o + 2) m.toNat = Int32.ofInt (pl G m) := by
      rw [q2c.1 m m0 m1]
      unfold setP
      rw [if_neg (fun c => g6 c.symm)]
    obtain ⟨s4, q4, q5, q6⟩ := c_lift hB ho hp hP3 (PB_Fm ho hp hPB F3) q2c m0 m1 hplm.1 hplm.2
    obtain ⟨s5, q7, q8, q9⟩ := c_set hB ho hp (by rw [q6.2]; exact hP3) (PB_Fm ho hp hPB (F3.tr q6)) q5 m0 m1 hq.1 hq.2
    have F5 := (F3.tr q6).tr q9
    refine ⟨s5, ?_, fin _ _ _ _ _ s5 F5 q8 (fun j j0 j1 => ?_) (fun r => ?_) (fun u r u0 u1 r0 r1 => ?_) ?_ ?_, F5⟩
    · cases ec : isCr B t with
      | true =>
        rw [ec] at hcr q4 hcm
        have q4 : f_X3_lift o (Int32.ofInt m) (Int32.ofInt (pl G m)) (uI (uI s1 o 8 (Int32.ofInt (bal B G 0 - ldV B t))) o 9 (Int32.ofInt (ctn B G + 1))) = some s4 := q4
        have hcm : (uI (uI s1 o 8 (Int32.ofInt (bal B G 0 - ldV B t))) o 9 (Int32.ofInt (ctn B G + 1))).1 (o + 2) m.toNat = Int32.ofInt (pl G m) := hcm
        simp (disch := omega) only [f_X3_carry, f_X3_carry_j52, f_X3_carry_j56, hst, q1, hld, l8, l9, hP1, hcr, hcm, q4, q7, bI_t, u_3, g_kk, g_k1, g_n1, g_k2, g_n2, g_k3, g_n3, g_k4, g_n4, g_k5, g_n5, g_k7, g_n7, g_k8, g_n8, g_k9, g_n9, g_k6, g_r3, g_r4, g_r5, g_r6, g_r7, g_r10, g_q0, g_q1, g_q2, p_kk, p_k1, p_n1, p_k2, p_n2, p_k3, p_n3, p_k4, p_n4, p_k5, p_n5, p_k6, p_n6, p_k7, p_n7, p_k8, p_n8, p_k9, p_n9, p_k10, p_n10, p_k11, p_n11, p_k13, p_n13, p_k12, p_r2, p_r4, p_r5, p_r6, p_r7, p_r9, p_r10, p_r11, p_r13, p_r14, p_r15, p_r16, p_h0, n_i8, n_i16, n_0, n_31, n_add, n_sub, n_mul, n_neg, n_div, n_rem, n_le_t, n_le_f, n_lt_t, n_lt_f, n_eq_t, n_eq_f, n_cl, n_gd, n_gdt, n_nz, Int.reduceToNat, Int.reduceAdd, Int.reduceSub, Int.reduceMul, Int.reduceNeg, Int.reduceLT, Int.reduceLE, Int.reduceEq, Int.reduceDiv, Int.reduceMod, Nat.reduceAdd, Nat.reduceMul, ↓reduceIte, ltd, bnd]
      | false =>
        rw [ec] at hcr q4 hcm
        have q4 : f_X3_lift o (Int32.ofInt m) (Int32.ofInt (pl G m)) (uI (uI s1 o 8 (Int32.ofInt (bal B G 0 - ldV B t))) o 9 (Int32.ofInt (ctn B G + 0))) = some s4 := q4
        have hcm : (uI (uI s1 o 8 (Int32.ofInt (bal B G 0 - ldV B t))) o 9 (Int32.ofInt (ctn B G + 0))).1 (o + 2) m.toNat = Int32.ofInt (pl G m) := hcm
        simp (disch := omega) only [f_X3_carry, f_X3_carry_j52, f_X3_carry_j56, hst, q1, hld, l8, l9, hP1, hcr, hcm, q4, q7, bI_f, u_3, g_kk, g_k1, g_n1, g_k2, g_n2, g_k3, g_n3, g_k4, g_n4, g_k5, g_n5, g_k7, g_n7, g_k8, g_n8, g_k9, g_n9, g_k6, g_r3, g_r4, g_r5, g_r6, g_r7, g_r10, g_q0, g_q1, g_q2, p_kk, p_k1, p_n1, p_k2, p_n2, p_k3, p_n3, p_k4, p_n4, p_k5, p_n5, p_k6, p_n6, p_k7, p_n7, p_k8, p_n8, p_k9, p_n9, p_k10, p_n10, p_k11, p_n11, p_k13, p_n13, p_k12, p_r2, p_r4, p_r5, p_r6, p_r7, p_r9, p_r10, p_r11, p_r13, p_r14, p_r15, p_r16, p_h0, n_i8, n_i16, n_0, n_31, n_add, n_sub, n_mul, n_neg, n_div, n_rem, n_le_t, n_le_f, n_lt_t, n_lt_f, n_eq_t, n_eq_f, n_cl, n_gd, n_gdt, n_nz, Int.reduceToNat, Int.reduceAdd, Int.reduceSub, Int.reduceMul, Int.reduceNeg, Int.reduceLT, Int.reduceLE, Int.reduceEq, Int.reduceDiv, Int.reduceMod, Nat.reduceAdd, Nat.reduceMul, ↓reduceIte, ltd, bnd]
    · unfold setP
      by_cases c1 : j = m
      · simp only [if_pos c1]
      · simp only [if_neg c1]
    · unfold setP
      by_cases c1 : r = 5 * y + x
      · simp only [if_pos c1]
      · simp only [if_neg c1]
    · unfold addH remH
      have hof := occ_at hB hG m0 m1 (u := u) (show ¬ gx G m = -1 by omega)
      by_cases c0 : u = sd B m
      · rw [if_pos c0, if_pos c0, if_neg (fun c => g5 (by omega))]
        by_cases c1 : r = 5 * y + x
        · rw [if_pos c1, decide_eq_true c1, Bool.or_true, decide_eq_true c0.symm]
        · rw [if_neg c1, decide_eq_false c1, Bool.or_false]
          by_cases c2 : r = pl G m
          · rw [if_pos c2, decide_eq_true c2, Bool.not_true, Bool.and_false]
          · rw [if_neg c2, decide_eq_false c2, Bool.not_false, Bool.and_true]
      · rw [if_neg c0, if_neg c0, if_pos (by omega)]
        by_cases c1 : r = 5 * y + x
        · rw [if_pos c1, decide_eq_true c1, Bool.not_true, Bool.and_false, decide_eq_false (fun c => c0 c.symm)]
        · rw [if_neg c1, decide_eq_false c1, Bool.not_false, Bool.and_true]
          by_cases c2 : r = pl G m
          · rw [if_pos c2, c2, hof, decide_eq_false (fun c => c0 c.symm)]
          · rw [if_neg c2]
    · rw [mvG_bal hB hG hk, ht, if_neg e]
    · rw [mvG_ctn hB hG hk, ht, if_neg e]
