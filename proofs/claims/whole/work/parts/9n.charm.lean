/-! L3: harm, and what a struck move does, in the class -/
def HC (o : Nat) (s s' : ST) : Prop := (∀ a k : Nat, ¬ a = o + 6 → ¬ a = o + 7 → ¬ a = o + 9 → s'.1 a k = s.1 a k) ∧ s'.2 = s.2
theorem HC.rf (o : Nat) (s : ST) : HC o s s := ⟨fun _ _ _ _ _ => rfl, rfl⟩
theorem HC.tr {o : Nat} {s t u : ST} (h1 : HC o s t) (h2 : HC o t u) : HC o s u := ⟨fun a k x y z => (h2.1 a k x y z).trans (h1.1 a k x y z), h2.2.trans h1.2⟩
theorem ffr_0 : ffr (fun _ => 0) = fun _ => 0 := by funext v; unfold ffr; split <;> rfl
theorem c_harmTo {B : Brd} {o p : Nat} {s : ST} (hB : Bv B) (ho : o = 36 ∨ o = 46) (hp : p = 6 ∨ p = 20) (hP : RR s.2.2 o 0 = some p) (hPB : PB B p s) (hV : Hv B) {t c q d r : Int} (g1 : s.1 o 11 = Int32.ofInt t) (g2 : s.1 o 12 = Int32.ofInt q) (g3 : s.1 o 13 = Int32.ofInt c) (g4 : s.1 o 1 = Int32.ofInt d) (ht : lb t) (ht0 : 0 ≤ t) (hc : lb c) (hd0 : 0 ≤ d) (hd1 : d ≤ 1000) (q0 : 0 ≤ q) (q1 : q < 25) (r0 : 0 ≤ r) (r1 : r < 25) : ∃ s', f_X3_harmTo o (Int32.ofInt r) s = some (Int32.ofInt (hvm B t c (farO (q % 5) (q / 5) (r % 5) (r / 5)) d), s') ∧ HC o s s' ∧ 0 ≤ hvm B t c (farO (q % 5) (q / 5) (r % 5) (r / 5)) d ∧ hvm B t c (farO (q % 5) (q / 5) (r % 5) (r / 5)) d ≤ 1000000 := by
  have hfb := farO_b (x := q % 5) (y := q / 5) (a := r % 5) (b := r / 5) (by omega) (by omega) (by omega) (by omega) (by omega) (by omega) (by omega) (by omega)
  have hfar := fun s => c_far q0 q1 r0 r1 s
  rcases hPB.2.2.2.2 with ⟨e, c17⟩ | ⟨n0, n1, c17, c1, hco⟩
  · have hh : hvm B t c (farO (q % 5) (q / 5) (r % 5) (r / 5)) d = t := by unfold hvm; rw [if_pos e]
    rw [hh]
    refine ⟨s, ?_, HC.rf o s, ht0, ht.2⟩
    simp (disch := omega) only [f_X3_harmTo, hP, c17, g1, g_kk, g_k1, g_n1, g_k2, g_n2, g_k3, g_n3, g_k4, g_n4, g_k5, g_n5, g_k7, g_n7, g_k8, g_n8, g_k9, g_n9, g_k6, g_r3, g_r4, g_r5, g_r6, g_r7, g_r10, g_q0, g_q1, g_q2, p_kk, p_k1, p_n1, p_k2, p_n2, p_k3, p_n3, p_k4, p_n4, p_k5, p_n5, p_k6, p_n6, p_k7, p_n7, p_k8, p_n8, p_k9, p_n9, p_k10, p_n10, p_k11, p_n11, p_k13, p_n13, p_k12, p_r2, p_r4, p_r5, p_r6, p_r7, p_r9, p_r10, p_r11, p_r13, p_r14, p_r15, p_r16, p_h0, n_i8, n_i16, n_0, n_31, n_add, n_sub, n_mul, n_neg, n_div, n_rem, n_le_t, n_le_f, n_lt_t, n_lt_f, n_eq_t, n_eq_f, n_cl, n_gd, n_gdt, n_nz, Int.reduceToNat, Int.reduceAdd, Int.reduceSub, Int.reduceMul, Int.reduceNeg, Int.reduceLT, Int.reduceLE, Int.reduceEq, Int.reduceDiv, Int.reduceMod, Nat.reduceAdd, Nat.reduceMul, ↓reduceIte, u_eq, u_no, u_nk, u_ek, u_2, u_3, j_1, j_3, j_eq, j_no, j_nk, ltd, bnd]
  · rcases hV with hV | ⟨-, -, hty, hcs⟩
    · omega
    generalize farO (q % 5) (q / 5) (r % 5) (r / 5) = w at *
    have hFO : FO (p + 12) (p + 13) := by rcases hp with rfl | rfl; exact Or.inl ⟨rfl, rfl⟩; exact Or.inr (Or.inl ⟨rfl, rfl⟩)
    have hCE : CE o (fun i => 0 ≤ i ∧ i ≤ 3) (hEnv t c w d) (uI (uI (uI (uI s (o + 7) 18 (Int32.ofInt t)) (o + 7) 19 (Int32.ofInt c)) (o + 7) 20 (Int32.ofInt w)) (o + 7) 21 (Int32.ofInt d)) := by
      intro i hi
      have : i = 0 ∨ i = 1 ∨ i = 2 ∨ i = 3 := by omega
      rcases this with rfl | rfl | rfl | rfl
      · show (uI (uI (uI (uI s (o + 7) 18 (Int32.ofInt t)) (o + 7) 19 (Int32.ofInt c)) (o + 7) 20 (Int32.ofInt w)) (o + 7) 21 (Int32.ofInt d)).1 (o + 7) 18 = Int32.ofInt t
        rw [u_nk (by omega), u_nk (by omega), u_nk (by omega), u_eq]
      · show (uI (uI (uI (uI s (o + 7) 18 (Int32.ofInt t)) (o + 7) 19 (Int32.ofInt c)) (o + 7) 20 (Int32.ofInt w)) (o + 7) 21 (Int32.ofInt d)).1 (o + 7) 19 = Int32.ofInt c
        rw [u_nk (by omega), u_nk (by omega), u_eq]
      · show (uI (uI (uI (uI s (o + 7) 18 (Int32.ofInt t)) (o + 7) 19 (Int32.ofInt c)) (o + 7) 20 (Int32.ofInt w)) (o + 7) 21 (Int32.ofInt d)).1 (o + 7) 20 = Int32.ofInt w
        rw [u_nk (by omega), u_eq]
      · show (uI (uI (uI (uI s (o + 7) 18 (Int32.ofInt t)) (o + 7) 19 (Int32.ofInt c)) (o + 7) 20 (Int32.ofInt w)) (o + 7) 21 (Int32.ofInt d)).1 (o + 7) 21 = Int32.ofInt d
        rw [u_eq]
    obtain ⟨v, s', e1, e2, e3, e4⟩ := c_reckon ho hFO (C := hcd B) (N := bHm B) n0 n1 (U := fun i => 0 ≤ i ∧ i ≤ 3) (V := False) (E := hEnv t c w d) (Fr := fun _ => 0) (fun i _ _ => hEnv_b ht hc ⟨by omega, by omega⟩ ⟨by omega, by omega⟩ i) (fun _ _ _ => ⟨by omega, by omega⟩) (fun i i0 i1 a b => by rcases hcs i i0 i1 with h | h | h <;> omega) (fun i i0 i1 a => by rcases hcs i i0 i1 with h | h | h <;> omega) (s := uI (uI (uI (uI s (o + 7) 18 (Int32.ofInt t)) (o + 7) 19 (Int32.ofInt c)) (o + 7) 20 (Int32.ofInt w)) (o + 7) 21 (Int32.ofInt d)) ⟨by rw [u_no (by omega), u_no (by omega), u_no (by omega), u_no (by omega)]; exact c1, fun i i0 i1 => by rw [u_no (by omega), u_no (by omega), u_no (by omega), u_no (by omega)]; exact hco i i0 i1⟩ hCE (fun h => h.elim) hty
    rw [ffr_0] at e1
    have hr : hraw B t c w d = v := by
      show (evL (hEnv t c w d) (fun _ => 0) ((upto (bHm B).toNat 0).map (hcd B)) []).headD 0 = v
      rw [e1]; rfl
    have hh : hvm B t c w d = if v < 0 then 0 else v := by unfold hvm; rw [if_neg (by omega), hr]
    rw [hh]
    have hvb := e2.1
    obtain ⟨v1, v2⟩ := hvb
    have hfr : HC o s s' := ⟨fun a k x y z => by rw [e4.1 a k (by omega) (by omega), u_no (by omega), u_no (by omega), u_no (by omega), u_no (by omega)], e4.2⟩
    by_cases x : v < 0
    · rw [if_pos x]
      refine ⟨s', ?_, hfr, by omega, by omega⟩
      simp (disch := omega) only [f_X3_harmTo, hP, c17, g1, g2, g3, g4, hfar, e3, g_kk, g_k1, g_n1, g_k2, g_n2, g_k3, g_n3, g_k4, g_n4, g_k5, g_n5, g_k7, g_n7, g_k8, g_n8, g_k9, g_n9, g_k6, g_r3, g_r4, g_r5, g_r6, g_r7, g_r10, g_q0, g_q1, g_q2, p_kk, p_k1, p_n1, p_k2, p_n2, p_k3, p_n3, p_k4, p_n4, p_k5, p_n5, p_k6, p_n6, p_k7, p_n7, p_k8, p_n8, p_k9, p_n9, p_k10, p_n10, p_k11, p_n11, p_k13, p_n13, p_k12, p_r2, p_r4, p_r5, p_r6, p_r7, p_r9, p_r10, p_r11, p_r13, p_r14, p_r15, p_r16, p_h0, n_i8, n_i16, n_0, n_31, n_add, n_sub, n_mul, n_neg, n_div, n_rem, n_le_t, n_le_f, n_lt_t, n_lt_f, n_eq_t, n_eq_f, n_cl, n_gd, n_gdt, n_nz, Int.reduceToNat, Int.reduceAdd, Int.reduceSub, Int.reduceMul, Int.reduceNeg, Int.reduceLT, Int.reduceLE, Int.reduceEq, Int.reduceDiv, Int.reduceMod, Nat.reduceAdd, Nat.reduceMul, ↓reduceIte, u_eq, u_no, u_nk, u_ek, u_2, u_3, j_1, j_3, j_eq, j_no, j_nk, ltd, bnd]
    · rw [if_neg x]
      refine ⟨s', ?_, hfr, by omega, by omega⟩
      by_cases x2 : v = 0
      · rw [x2] at e3 ⊢
        simp (disch := omega) only [f_X3_harmTo, hP, c17, g1, g2, g3, g4, hfar, e3, g_kk, g_k1, g_n1, g_k2, g_n2, g_k3, g_n3, g_k4, g_n4, g_k5, g_n5, g_k7, g_n7, g_k8, g_n8, g_k9, g_n9, g_k6, g_r3, g_r4, g_r5, g_r6, g_r7, g_r10, g_q0, g_q1, g_q2, p_kk, p_k1, p_n1, p_k2, p_n2, p_k3, p_n3, p_k4, p_n4, p_k5, p_n5, p_k6, p_n6, p_k7, p_n7, p_k8, p_n8, p_k9, p_n9, p_k10, p_n10, p_k11, p_n11, p_k13, p_n13, p_k12, p_r2, p_r4, p_r5, p_r6, p_r7, p_r9, p_r10, p_r11, p_r13, p_r14, p_r15, p_r16, p_h0, n_i8, n_i16, n_0, n_31, n_add, n_sub, n_mul, n_neg, n_div, n_rem, n_le_t, n_le_f, n_lt_t, n_lt_f, n_eq_t, n_eq_f, n_cl, n_gd, n_gdt, n_nz, Int.reduceToNat, Int.reduceAdd, Int.reduceSub, Int.reduceMul, Int.reduceNeg, Int.reduceLT, Int.reduceLE, Int.reduceEq, Int.reduceDiv, Int.reduceMod, Nat.reduceAdd, Nat.reduceMul, ↓reduceIte, u_eq, u_no, u_nk, u_ek, u_2, u_3, j_1, j_3, j_eq, j_no, j_nk, ltd, bnd]
      · simp (disch := omega) only [f_X3_harmTo, hP, c17, g1, g2, g3, g4, hfar, e3, g_kk, g_k1, g_n1, g_k2, g_n2, g_k3, g_n3, g_k4, g_n4, g_k5, g_n5, g_k7, g_n7, g_k8, g_n8, g_k9, g_n9, g_k6, g_r3, g_r4, g_r5, g_r6, g_r7, g_r10, g_q0, g_q1, g_q2, p_kk, p_k1, p_n1, p_k2, p_n2, p_k3, p_n3, p_k4, p_n4, p_k5, p_n5, p_k6, p_n6, p_k7, p_n7, p_k8, p_n8, p_k9, p_n9, p_k10, p_n10, p_k11, p_n11, p_k13, p_n13, p_k12, p_r2, p_r4, p_r5, p_r6, p_r7, p_r9, p_r10, p_r11, p_r13, p_r14, p_r15, p_r16, p_h0, n_i8, n_i16, n_0, n_31, n_add, n_sub, n_mul, n_neg, n_div, n_rem, n_le_t, n_le_f, n_lt_t, n_lt_f, n_eq_t, n_eq_f, n_cl, n_gd, n_gdt, n_nz, Int.reduceToNat, Int.reduceAdd, Int.reduceSub, Int.reduceMul, Int.reduceNeg, Int.reduceLT, Int.reduceLE, Int.reduceEq, Int.reduceDiv, Int.reduceMod, Nat.reduceAdd, Nat.reduceMul, ↓reduceIte, u_eq, u_no, u_nk, u_ek, u_2, u_3, j_1, j_3, j_eq, j_no, j_nk, ltd, bnd]
theorem GA_cg {B : Brd} {G G' : Gam} {o p : Nat} {s : ST} (h : GA B G o p s) (hx : ∀ m, gx G' m = gx G m) (hy : ∀ m, gy G' m = gy G m) (hG : Gv B G') : GA B G' o p s := by
  obtain ⟨⟨hB, -⟩, h2, h3, h4, h5⟩ := h
  refine ⟨⟨hB, hG⟩, h2, h3, h4, ?_⟩
  have e1 : pl G' = pl G := by funext m; unfold pl; rw [hx, hy]
  have e2 : mAt B G' = mAt B G := by funext a b; unfold mAt; simp only [hx, hy]
  have e3 : occ B G' = occ B G := by funext t q; unfold occ; rw [e2]
  have e4 : bal B G' 0 = bal B G 0 := by
    unfold bal
    have : bal1 B G' 0 = bal1 B G 0 := by funext m; unfold bal1; rw [hx]
    rw [this]
  have e5 : ctn B G' = ctn B G := by
    unfold ctn
    have : tk G' = tk G := by funext m; unfold tk; rw [hx]
    rw [this]
  unfold CGp
  rw [e1, e2, e3, e4, e5]
  exact h5
theorem GA_b {B : Brd} {G : Gam} {o p : Nat} {s : ST} (h : GA B G o p s) {f v : Int} (v0 : 0 ≤ v) (v1 : v ≤ 999) {k : Nat} {x : Int32} : GA B (setb G f v) o p (uI s (o + 3) k x) := by
  obtain ⟨ho, hp⟩ := h.2.1
  have h1 : GA B G o p (uI s (o + 3) k x) := GA_fr h rfl (fun a j a0 a1 => u_no (by omega)) (fun j => ⟨u_no (by omega), u_no (by omega), u_no (by omega)⟩) (u_no (by omega)) (u_no (by omega))
  exact GA_cg h1 (fun m => setb_x G f v m) (fun m => setb_y G f v m) (Gv_setb h.1.2 v0 v1)
theorem GB_b {B : Brd} {G : Gam} {o : Nat} {s : ST} (h : GB B G o s) {f v : Int} (f0 : 0 ≤ f) : GB B (setb G f v) o (uI s (o + 3) f.toNat (Int32.ofInt v)) := by
  intro j j0 j1
  rw [setb_b]
  by_cases e : j = f
  · rw [if_pos e, u_ek (by omega)]
  · rw [if_neg e, u_nk (by omega)]; exact h j j0 j1
/-- what fields bear has changed -/
def Fb (o : Nat) (s s' : ST) : Prop := (∀ a k : Nat, ¬ a = o + 3 → s'.1 a k = s.1 a k) ∧ s'.2 = s.2
theorem Fb.rf (o : Nat) (s : ST) : Fb o s s := ⟨fun _ _ _ => rfl, rfl⟩
theorem Fb.tr {o : Nat} {s t u : ST} (h1 : Fb o s t) (h2 : Fb o t u) : Fb o s u := ⟨fun a k x => (h2.1 a k x).trans (h1.1 a k x), h2.2.trans h1.2⟩
theorem c_turn_L {B : Brd} {o p : Nat} (K : Nat → ST → Option ST) : ∀ (n F : Nat) (i : Int) (G : Gam) (s : ST), GA B G o p s → GB B G o s → 0 ≤ i → (n : Int) = bF B - i → n < F → ∃ s', Fb o s s' ∧ GA B ((upto n i).foldl (grw B) G) o p s' ∧ GB B ((upto n i).foldl (grw B) G) o s' ∧ f_X3_turn_L2 K F o (Int32.ofInt i) s = K o s' := by
  intro n
  induction n with
  | zero =>
    intro F i G s h hb h0 hn hF
    obtain ⟨F, rfl⟩ : ∃ F', F = F' + 1 := ⟨F - 1, by omega⟩
    have h' := h
    obtain ⟨⟨hB, hG⟩, ⟨ho, hp⟩, hP, ⟨hn', -⟩, -⟩ := h'
    have hF6 : bF B ≤ 6 := hB.1.1.2.2.2.2.2.2.2.2.2
    have c12 : s.1 p 12 = Int32.ofInt (bF B) := hn'.2.2.2.2.1
    refine ⟨s, Fb.rf o s, h, hb, ?_⟩
    simp (disch := omega) only [f_X3_turn_L2, hP, c12, g_kk, g_k1, g_n1, g_k2, g_n2, g_k3, g_n3, g_k4, g_n4, g_k5, g_n5, g_k7, g_n7, g_k8, g_n8, g_k9, g_n9, g_k6, g_r3, g_r4, g_r5, g_r6, g_r7, g_r10, g_q0, g_q1, g_q2, p_kk, p_k1, p_n1, p_k2, p_n2, p_k3, p_n3, p_k4, p_n4, p_k5, p_n5, p_k6, p_n6, p_k7, p_n7, p_k8, p_n8, p_k9, p_n9, p_k10, p_n10, p_k11, p_n11, p_k13, p_n13, p_k12, p_r2, p_r4, p_r5, p_r6, p_r7, p_r9, p_r10, p_r11, p_r13, p_r14, p_r15, p_r16, p_h0, n_i8, n_i16, n_0, n_31, n_add, n_sub, n_mul, n_neg, n_div, n_rem, n_le_t, n_le_f, n_lt_t, n_lt_f, n_eq_t, n_eq_f, n_cl, n_gd, n_gdt, n_nz, Int.reduceToNat, Int.reduceAdd, Int.reduceSub, Int.reduceMul, Int.reduceNeg, Int.reduceLT, Int.reduceLE, Int.reduceEq, Int.reduceDiv, Int.reduceMod, Nat.reduceAdd, Nat.reduceMul, ↓reduceIte, u_eq, u_no, u_nk, u_ek, u_2, u_3, j_1, j_3, j_eq, j_no, j_nk, ltd, bnd]
  | succ n ih =>
    intro F i G s h hb h0 hn hF
    obtain ⟨F, rfl⟩ : ∃ F', F = F' + 1 := ⟨F - 1, by omega⟩
    have h' := h
    obtain ⟨⟨hB, hG⟩, ⟨ho, hp⟩, hP, ⟨hn', -⟩, -⟩ := h'
    have hF6 : bF B ≤ 6 := hB.1.1.2.2.2.2.2.2.2.2.2
    have c12 : s.1 p 12 = Int32.ofInt (bF B) := hn'.2.2.2.2.1
    have c18 : s.1 p 18 = Int32.ofInt (bGr B) := hn'.2.2.2.2.2.1
    have hgb := hG.2.2.2 i h0 (by omega)
    have hcb := hb i h0 (by omega)
    have hgr := hB.2.2.2.2.2
    simp only [upto, List.foldl_cons]
    have hst : grw B G i = setb G i (if gb G i + bGr B ≤ 999 then gb G i + bGr B else 999) := rfl
    by_cases e : gb G i + bGr B ≤ 999
    · rw [if_pos e] at hst
      rw [hst]
      obtain ⟨s2, q5, q6, q6b, q7⟩ := ih F (i + 1) _ _ (GA_b h (f := i) (v := gb G i + bGr B) (k := i.toNat) (x := Int32.ofInt (gb G i + bGr B)) (by omega) (by omega)) (GB_b hb h0) (by omega) (by omega) (by omega)
      refine ⟨s2, Fb.tr ?_ q5, q6, q6b, ?_⟩
      · exact ⟨fun a k x => by (simp only [ua, ja, u_2, u_3, j_1, j_3]; (repeat' split) <;> first | rfl | (exfalso; omega)), rfl⟩
      rw [← q7]
      rw [f_X3_turn_L2]
      by_cases e2 : gb G i + bGr B = 999
      · rw [e2]
        simp (disch := omega) only [hP, c12, c18, hcb, e2, g_kk, g_k1, g_n1, g_k2, g_n2, g_k3, g_n3, g_k4, g_n4, g_k5, g_n5, g_k7, g_n7, g_k8, g_n8, g_k9, g_n9, g_k6, g_r3, g_r4, g_r5, g_r6, g_r7, g_r10, g_q0, g_q1, g_q2, p_kk, p_k1, p_n1, p_k2, p_n2, p_k3, p_n3, p_k4, p_n4, p_k5, p_n5, p_k6, p_n6, p_k7, p_n7, p_k8, p_n8, p_k9, p_n9, p_k10, p_n10, p_k11, p_n11, p_k13, p_n13, p_k12, p_r2, p_r4, p_r5, p_r6, p_r7, p_r9, p_r10, p_r11, p_r13, p_r14, p_r15, p_r16, p_h0, n_i8, n_i16, n_0, n_31, n_add, n_sub, n_mul, n_neg, n_div, n_rem, n_le_t, n_le_f, n_lt_t, n_lt_f, n_eq_t, n_eq_f, n_cl, n_gd, n_gdt, n_nz, Int.reduceToNat, Int.reduceAdd, Int.reduceSub, Int.reduceMul, Int.reduceNeg, Int.reduceLT, Int.reduceLE, Int.reduceEq, Int.reduceDiv, Int.reduceMod, Nat.reduceAdd, Nat.reduceMul, ↓reduceIte, u_eq, u_no, u_nk, u_ek, u_2, u_3, j_1, j_3, j_eq, j_no, j_nk, ltd, bnd]
      · simp (disch := omega) only [hP, c12, c18, hcb, g_kk, g_k1, g_n1, g_k2, g_n2, g_k3, g_n3, g_k4, g_n4, g_k5, g_n5, g_k7, g_n7, g_k8, g_n8, g_k9, g_n9, g_k6, g_r3, g_r4, g_r5, g_r6, g_r7, g_r10, g_q0, g_q1, g_q2, p_kk, p_k1, p_n1, p_k2, p_n2, p_k3, p_n3, p_k4, p_n4, p_k5, p_n5, p_k6, p_n6, p_k7, p_n7, p_k8, p_n8, p_k9, p_n9, p_k10, p_n10, p_k11, p_n11, p_k13, p_n13, p_k12, p_r2, p_r4, p_r5, p_r6, p_r7, p_r9, p_r10, p_r11, p_r13, p_r14, p_r15, p_r16, p_h0, n_i8, n_i16, n_0, n_31, n_add, n_sub, n_mul, n_neg, n_div, n_rem, n_le_t, n_le_f, n_lt_t, n_lt_f, n_eq_t, n_eq_f, n_cl, n_gd, n_gdt, n_nz, Int.reduceToNat, Int.reduceAdd, Int.reduceSub, Int.reduceMul, Int.reduceNeg, Int.reduceLT, Int.reduceLE, Int.reduceEq, Int.reduceDiv, Int.reduceMod, Nat.reduceAdd, Nat.reduceMul, ↓reduceIte, u_eq, u_no, u_nk, u_ek, u_2, u_3, j_1, j_3, j_eq, j_no, j_nk, ltd, bnd]
    · rw [if_neg e] at hst
      rw [hst]
      obtain ⟨s2, q5, q6, q6b, q7⟩ := ih F (i + 1) _ _ (GA_b h (f := i) (v := 999) (k := i.toNat) (x := Int32.ofInt 999) (by omega) (by omega)) (GB_b hb h0) (by omega) (by omega) (by omega)
      refine ⟨s2, Fb.tr ?_ q5, q6, q6b, ?_⟩
      · exact ⟨fun a k x => by (simp only [ua, ja, u_2, u_3, j_1, j_3]; (repeat' split) <;> first | rfl | (exfalso; omega)), rfl⟩
      rw [← q7]
      rw [f_X3_turn_L2]
      simp (disch := omega) only [hP, c12, c18, hcb, g_kk, g_k1, g_n1, g_k2, g_n2, g_k3, g_n3, g_k4, g_n4, g_k5, g_n5, g_k7, g_n7, g_k8, g_n8, g_k9, g_n9, g_k6, g_r3, g_r4, g_r5, g_r6, g_r7, g_r10, g_q0, g_q1, g_q2, p_kk, p_k1, p_n1, p_k2, p_n2, p_k3, p_n3, p_k4, p_n4, p_k5, p_n5, p_k6, p_n6, p_k7, p_n7, p_k8, p_n8, p_k9, p_n9, p_k10, p_n10, p_k11, p_n11, p_k13, p_n13, p_k12, p_r2, p_r4, p_r5, p_r6, p_r7, p_r9, p_r10, p_r11, p_r13, p_r14, p_r15, p_r16, p_h0, n_i8, n_i16, n_0, n_31, n_add, n_sub, n_mul, n_neg, n_div, n_rem, n_le_t, n_le_f, n_lt_t, n_lt_f, n_eq_t, n_eq_f, n_cl, n_gd, n_gdt, n_nz, Int.reduceToNat, Int.reduceAdd, Int.reduceSub, Int.reduceMul, Int.reduceNeg, Int.reduceLT, Int.reduceLE, Int.reduceEq, Int.reduceDiv, Int.reduceMod, Nat.reduceAdd, Nat.reduceMul, ↓reduceIte, u_eq, u_no, u_nk, u_ek, u_2, u_3, j_1, j_3, j_eq, j_no, j_nk, ltd, bnd]
/-- only game o has changed, and not how deep its sides look -/
def FD (o : Nat) (s s' : ST) : Prop := (∀ a k : Nat, ¬ (o ≤ a ∧ a ≤ o + 9) → s'.1 a k = s.1 a k) ∧ (∀ k : Nat, s'.1 (o + 1) k = s.1 (o + 1) k) ∧ s'.2 = s.2
theorem FD.rf (o : Nat) (s : ST) : FD o s s := ⟨fun _ _ _ => rfl, fun _ => rfl, rfl⟩
theorem FD.tr {o : Nat} {s t u : ST} (h1 : FD o s t) (h2 : FD o t u) : FD o s u := ⟨fun a k x => (h2.1 a k x).trans (h1.1 a k x), fun k => (h2.2.1 k).trans (h1.2.1 k), h2.2.2.trans h1.2.2⟩
theorem Fb.fd {o : Nat} {s t : ST} (h : Fb o s t) : FD o s t := ⟨fun a k x => h.1 a k (by omega), fun k => h.1 _ k (by omega), h.2⟩
theorem Fm.fd {o : Nat} {s t : ST} (h : Fm o s t) : FD o s t := ⟨fun a k x => h.1 a k (by omega) (by omega) (by omega) (by omega), fun k => h.1 _ k (by omega) (by omega) (by omega) (by omega), h.2⟩
theorem HC.fd {o : Nat} {s t : ST} (h : HC o s t) : FD o s t := ⟨fun a k x => h.1 a k (by omega) (by omega) (by omega), fun k => h.1 _ k (by omega) (by omega) (by omega), h.2⟩
def d999 (d : Int) : Int := if d + 1 < 999 then d + 1 else 999
theorem c_turn {B : Brd} {G : Gam} {o p : Nat} {s : ST} (h : GA B G o p s) (hb : GB B G o s) {t d : Int} (g2 : s.1 o 2 = Int32.ofInt t) (t0 : 0 ≤ t) (t1 : t ≤ 1) (g1 : s.1 o 1 = Int32.ofInt d) (d0 : 0 ≤ d) (d1 : d ≤ 1000) : ∃ s', f_X3_turn o s = some s' ∧ GA B ((flds B).foldl (grw B) G) o p s' ∧ GB B ((flds B).foldl (grw B) G) o s' ∧ s'.1 o 2 = Int32.ofInt (1 - t) ∧ s'.1 o 1 = Int32.ofInt (d999 d) ∧ FD o s s' := by
  have hF0 : 0 ≤ bF B := h.1.1.1.1.2.2.2.2.2.2.2.2.1
  have hF6 : bF B ≤ 6 := h.1.1.1.1.2.2.2.2.2.2.2.2.2
  obtain ⟨ho, hp⟩ := h.2.1
  obtain ⟨s1, q1, q2, q2b, q3⟩ := c_turn_L (B := B) (o := o) (p := p) f_X3_turn_j45 (bF B).toNat fuel 0 G s h hb (by omega) (by omega) (by unfold fuel; omega)
  have g2 : s1.1 o 2 = Int32.ofInt t := (q1.1 o 2 (by omega)).trans g2
  have g1 : s1.1 o 1 = Int32.ofInt d := (q1.1 o 1 (by omega)).trans g1
  refine ⟨uI (uI s1 o 2 (Int32.ofInt (1 - t))) o 1 (Int32.ofInt (d999 d)), ?_, ?_, ?_, ?_, u_eq _ _ _ _, q1.fd.tr ⟨fun a k x => by (simp only [ua, ja, u_2, u_3, j_1, j_3]; (repeat' split) <;> first | rfl | (exfalso; omega)), fun k => by (simp only [ua, ja, u_2, u_3, j_1, j_3]; (repeat' split) <;> first | rfl | (exfalso; omega)), rfl⟩⟩
  · show f_X3_turn_L2 f_X3_turn_j45 fuel o (Int32.ofInt 0) s = _
    rw [q3]
    unfold d999
    by_cases e : d + 1 < 999
    · rw [if_pos e]
      simp (disch := omega) only [f_X3_turn_j45, g1, g2, g_kk, g_k1, g_n1, g_k2, g_n2, g_k3, g_n3, g_k4, g_n4, g_k5, g_n5, g_k7, g_n7, g_k8, g_n8, g_k9, g_n9, g_k6, g_r3, g_r4, g_r5, g_r6, g_r7, g_r10, g_q0, g_q1, g_q2, p_kk, p_k1, p_n1, p_k2, p_n2, p_k3, p_n3, p_k4, p_n4, p_k5, p_n5, p_k6, p_n6, p_k7, p_n7, p_k8, p_n8, p_k9, p_n9, p_k10, p_n10, p_k11, p_n11, p_k13, p_n13, p_k12, p_r2, p_r4, p_r5, p_r6, p_r7, p_r9, p_r10, p_r11, p_r13, p_r14, p_r15, p_r16, p_h0, n_i8, n_i16, n_0, n_31, n_add, n_sub, n_mul, n_neg, n_div, n_rem, n_le_t, n_le_f, n_lt_t, n_lt_f, n_eq_t, n_eq_f, n_cl, n_gd, n_gdt, n_nz, Int.reduceToNat, Int.reduceAdd, Int.reduceSub, Int.reduceMul, Int.reduceNeg, Int.reduceLT, Int.reduceLE, Int.reduceEq, Int.reduceDiv, Int.reduceMod, Nat.reduceAdd, Nat.reduceMul, ↓reduceIte, u_eq, u_no, u_nk, u_ek, u_2, u_3, j_1, j_3, j_eq, j_no, j_nk, ltd, bnd]
    · rw [if_neg e]
      simp (disch := omega) only [f_X3_turn_j45, g1, g2, g_kk, g_k1, g_n1, g_k2, g_n2, g_k3, g_n3, g_k4, g_n4, g_k5, g_n5, g_k7, g_n7, g_k8, g_n8, g_k9, g_n9, g_k6, g_r3, g_r4, g_r5, g_r6, g_r7, g_r10, g_q0, g_q1, g_q2, p_kk, p_k1, p_n1, p_k2, p_n2, p_k3, p_n3, p_k4, p_n4, p_k5, p_n5, p_k6, p_n6, p_k7, p_n7, p_k8, p_n8, p_k9, p_n9, p_k10, p_n10, p_k11, p_n11, p_k13, p_n13, p_k12, p_r2, p_r4, p_r5, p_r6, p_r7, p_r9, p_r10, p_r11, p_r13, p_r14, p_r15, p_r16, p_h0, n_i8, n_i16, n_0, n_31, n_add, n_sub, n_mul, n_neg, n_div, n_rem, n_le_t, n_le_f, n_lt_t, n_lt_f, n_eq_t, n_eq_f, n_cl, n_gd, n_gdt, n_nz, Int.reduceToNat, Int.reduceAdd, Int.reduceSub, Int.reduceMul, Int.reduceNeg, Int.reduceLT, Int.reduceLE, Int.reduceEq, Int.reduceDiv, Int.reduceMod, Nat.reduceAdd, Nat.reduceMul, ↓reduceIte, u_eq, u_no, u_nk, u_ek, u_2, u_3, j_1, j_3, j_eq, j_no, j_nk, ltd, bnd]
  · exact GA_fr q2 rfl (fun a j a0 a1 => by rw [u_no (by omega), u_no (by omega)]) (fun j => ⟨by rw [u_no (by omega), u_no (by omega)], by rw [u_no (by omega), u_no (by omega)], by rw [u_no (by omega), u_no (by omega)]⟩) (by rw [u_nk (by omega), u_nk (by omega)]) (by rw [u_nk (by omega), u_nk (by omega)])
  · exact fun f f0 f1 => by rw [u_no (by omega), u_no (by omega)]; exact q2b f f0 f1
  · rw [u_nk (by omega), u_eq]
