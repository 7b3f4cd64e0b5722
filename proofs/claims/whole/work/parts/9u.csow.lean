/-! L3: where to sow, of the class -/
theorem Gv_stp {B : Brd} (hV : Hv B) {t c x y d : Int} (ht : lb t) (ht0 : 0 ≤ t) (hc : lb c) (hd : lb d) (x1 : -10 ≤ x) (x2 : x ≤ 10) (y1 : -10 ≤ y) (y2 : y ≤ 10) (hB : Bv B) : ∀ (l : List Int) (G : Gam), Gv B G → (∀ f ∈ l, 0 ≤ f ∧ f < bF B) → Gv B (l.foldl (stp B t c x y d) G)
  | [], _, h, _ => h
  | f :: l, G, h, hl => by
    rw [List.foldl_cons]
    refine Gv_stp hV ht ht0 hc hd x1 x2 y1 y2 hB l _ ?_ (fun j hj => hl j (List.mem_cons_of_mem _ hj))
    have hf := hl f List.mem_cons_self
    have hgb := h.2.2.2 f hf.1 hf.2
    have hW : bW B ≤ 5 := hB.1.1.2.1
    have hH : bH B ≤ 5 := hB.1.1.2.2.2.1
    have hfp := hB.2.2.2.1 f hf.1 hf.2
    have hfa := farO_b (x := fx B f) (y := fy B f) (a := x) (b := y) (by omega) (by omega) (by omega) (by omega) x1 x2 y1 y2
    have hh := hvm_b hV ht ht0 hc (f := farO (fx B f) (fy B f) x y) ⟨by omega, by omega⟩ hd
    refine Gv_setb h ?_ ?_
    · unfold hitb; split <;> omega
    · unfold hitb; split <;> omega
theorem Gv_dayG {B : Brd} (hB : Bv B) (hV : Hv B) {G : Gam} (hG : Gv B G) {A : CA} (hA : okA B G A) (hd : gd_ G ≤ 999) : Gv B (dayG B G A) := by
  have hF0 : 0 ≤ bF B := hB.1.1.2.2.2.2.2.2.2.2.1
  have hfl : ∀ f ∈ flds B, 0 ≤ f ∧ f < bF B := fun f hf => by
    have := (mem_upto (n := (bF B).toNat) (i := 0)).mp hf
    omega
  unfold dayG
  by_cases e : A.1 = -1
  · rw [if_pos e]
    exact Gv_dayN (Gv_grw hB _ _ (Gv_flip hG) hfl) (by rw [fold_d (B := B) (g := grw B) (fun _ _ => rfl)]; exact hd)
  · rw [if_neg e]
    rcases hA with hA | ⟨-, m1, m2, k1, k2, hsd, hgo⟩
    · exact absurd hA e
    have hxy := sq_xy hB k1 k2
    have hW : bW B ≤ 5 := hB.1.1.2.1
    have hH : bH B ≤ 5 := hB.1.1.2.2.2.1
    have ht := tkw_b hB (G := G) (k := A.2.2.2.2)
    have hm : Gv B (mvK B G A.2.2.2.1 A.2.2.2.2) := mvG_v hB hG m1 m2 hxy.2.1 hxy.2.2.1 hxy.2.2.2.1 hxy.2.2.2.2
    have hs : Gv B (strG B G A.2.2.2.1 A.2.2.2.2) := Gv_stp hV (t := tkw B G A.2.2.2.2) (c := ckv B G A.2.2.2.1 A.2.2.2.2) (x := A.2.2.2.2 % bW B) (y := A.2.2.2.2 / bW B) (d := gd_ G) ⟨by omega, by omega⟩ ht.1 (by unfold ckv lb; split <;> omega) (by have := hG.1; exact ⟨by omega, by omega⟩) (by omega) (by omega) (by omega) (by omega) hB (flds B) _ hm hfl
    exact Gv_dayN (Gv_grw hB _ _ hs hfl) (by rw [fold_d (B := B) (g := grw B) (fun _ _ => rfl), strG_d]; exact hd)
theorem c_wither {B : Brd} {G : Gam} {o p : Nat} {s : ST} (hV : Hv B) {m k : Int} (h : GA B (mvK B G m k) o p s) (hb : GB B (mvK B G m k) o s) (k1 : 0 ≤ k) (k2 : k < bW B * bH B) (g11 : s.1 o 11 = Int32.ofInt (tkw B G k)) (g12 : s.1 o 12 = Int32.ofInt (p5 B k)) (g13 : s.1 o 13 = Int32.ofInt (ckv B G m k)) (g1 : s.1 o 1 = Int32.ofInt (gd_ G)) : ∃ s', f_X3_wither o s = some s' ∧ GA B (strG B G m k) o p s' ∧ GB B (strG B G m k) o s' ∧ (s'.1 o 2 = s.1 o 2 ∧ s'.1 o 1 = s.1 o 1) ∧ FD o s s' := by
  have hB := h.1.1
  have hGd := h.1.2.1
  have hGd : (0 ≤ gd_ G ∧ gd_ G ≤ 1000 ∧ 0 ≤ gs (mvK B G m k) ∧ gs (mvK B G m k) ≤ 1) := hGd
  have hp5 := p5_x hB k1 k2
  have hF0 : 0 ≤ bF B := hB.1.1.2.2.2.2.2.2.2.2.1
  have hF6 : bF B ≤ 6 := hB.1.1.2.2.2.2.2.2.2.2.2
  have htb := tkm_b (G := G) hB (k := k)
  have hck2 : lb (ckv B G m k) := by unfold ckv lb; split <;> omega
  obtain ⟨s2, b1, b2, b3, b4, b5⟩ := c_wither_L hV (t := tkw B G k) (c := ckv B G m k) (q := p5 B k) (d := gd_ G) ⟨by omega, by omega⟩ htb.2.1 hck2 hp5.2.2.1 hp5.2.2.2 (by omega) (by omega) (bF B).toNat fuel 0 (mvK B G m k) s h hb g11 g12 g13 g1 (by omega) (by omega) (by unfold fuel; omega)
  have hfold : (upto (bF B).toNat 0).foldl (stp B (tkw B G k) (ckv B G m k) (p5 B k % 5) (p5 B k / 5) (gd_ G)) (mvK B G m k) = strG B G m k := by
    rw [hp5.1, hp5.2.1]; rfl
  rw [hfold] at b2 b3
  exact ⟨s2, b1, b2, b3, ⟨b4 o 2 (by omega) (by omega) (by omega) (by omega), b4 o 1 (by omega) (by omega) (by omega) (by omega)⟩, ⟨fun a k x => b4 a k (by omega) (by omega) (by omega) (by omega), fun k => b4 _ k (by omega) (by omega) (by omega) (by omega), b5⟩⟩
/-- harm at places, as the class has it -/
def HS (V : Int → Int) (s : ST) : Prop := ∀ q : Int, 0 ≤ q → q < 25 → s.1 64 q.toNat = Int32.ofInt (V q)
def hvq (B : Brd) (t c x d q : Int) : Int := hvm B t c (farO (q % 5) (q / 5) (x % 5) (x / 5)) d
def avq (B : Brd) (t c q d i : Int) (V : Int → Int) (r : Int) : Int := if i ≤ r ∧ onBd B (r % 5) (r / 5) = true then V r + hvq B t c q d r else V r
theorem c_add_L {B : Brd} {p : Nat} {t c q d : Int} (hB : Bv B) (hV : Hv B) (hp : p = 6 ∨ p = 20) (ht : lb t) (ht0 : 0 ≤ t) (hc : lb c) (q0 : 0 ≤ q) (q1 : q < 25) (hd0 : 0 ≤ d) (hd1 : d ≤ 1000) : ∀ (n F : Nat) (i : Int) (V : Int → Int) (s : ST), RR s.2.2 0 3 = some p → RR s.2.2 46 0 = some p → PB B p s → s.1 46 11 = Int32.ofInt t → s.1 46 12 = Int32.ofInt q → s.1 46 13 = Int32.ofInt c → s.1 46 1 = Int32.ofInt d → HS V s → 0 ≤ i → (n : Int) = 25 - i → n < F → ∃ s', f_X9_addHarm_L2 F (Int32.ofInt i) s = some s' ∧ HS (avq B t c q d i V) s' ∧ (∀ a k : Nat, ¬ a = 52 → ¬ a = 53 → ¬ a = 55 → ¬ a = 64 → s'.1 a k = s.1 a k) ∧ s'.2 = s.2 := by
  intro n
  induction n with
  | zero =>
    intro F i V s h0 h46 hPB g1 g2 g3 g4 hS i0 hn hF
    obtain ⟨F, rfl⟩ : ∃ F', F = F' + 1 := ⟨F - 1, by omega⟩
    refine ⟨s, ?_, fun r r0 r1 => ?_, fun _ _ _ _ _ _ => rfl, rfl⟩
    · simp (disch := omega) only [f_X9_addHarm_L2, n_i8, n_i16, n_0, n_31, n_add, n_sub, n_mul, n_neg, n_div, n_rem, n_le_t, n_le_f, n_lt_t, n_lt_f, n_eq_t, n_eq_f, n_cl, n_gd, n_gdt, n_nz, Int.reduceToNat, Int.reduceAdd, Int.reduceSub, Int.reduceMul, Int.reduceNeg, Int.reduceLT, Int.reduceLE, Int.reduceEq, Int.reduceDiv, Int.reduceMod, Nat.reduceAdd, Nat.reduceMul, ↓reduceIte, u_eq, u_no, u_nk, u_ek, u_2, u_3, j_1, j_3, j_eq, j_no, j_nk, ltd, bnd]
    · rw [hS r r0 r1]; unfold avq; rw [if_neg (by omega)]
  | succ n ih =>
    intro F i V s h0 h46 hPB g1 g2 g3 g4 hS i0 hn hF
    obtain ⟨F, rfl⟩ : ∃ F', F = F' + 1 := ⟨F - 1, by omega⟩
    have hpl := c_isPlace hB hp hPB (x := i % 5) (y := i / 5) (by omega) (by omega) (by omega) (by omega)
    have hob : onBd B (i % 5) (i / 5) = decide ((0 ≤ i % 5 ∧ i % 5 < bW B) ∧ (0 ≤ i / 5 ∧ i / 5 < bH B)) := rfl
    rw [← hob] at hpl
    cases e : onBd B (i % 5) (i / 5) with
    | false =>
      rw [e] at hpl
      obtain ⟨s', b1, b2, b3, b4⟩ := ih F (i + 1) V s h0 h46 hPB g1 g2 g3 g4 hS (by omega) (by omega) (by omega)
      refine ⟨s', ?_, fun r r0 r1 => ?_, b3, b4⟩
      · rw [← b1, f_X9_addHarm_L2]
        simp (disch := omega) only [h0, hpl, bI_f, g_kk, g_k1, g_n1, g_k2, g_n2, g_k3, g_n3, g_k4, g_n4, g_k5, g_n5, g_k7, g_n7, g_k8, g_n8, g_k9, g_n9, g_k6, g_r3, g_r4, g_r5, g_r6, g_r7, g_r10, g_q0, g_q1, g_q2, p_kk, p_k1, p_n1, p_k2, p_n2, p_k3, p_n3, p_k4, p_n4, p_k5, p_n5, p_k6, p_n6, p_k7, p_n7, p_k8, p_n8, p_k9, p_n9, p_k10, p_n10, p_k11, p_n11, p_k13, p_n13, p_k12, p_r2, p_r4, p_r5, p_r6, p_r7, p_r9, p_r10, p_r11, p_r13, p_r14, p_r15, p_r16, p_h0, n_i8, n_i16, n_0, n_31, n_add, n_sub, n_mul, n_neg, n_div, n_rem, n_le_t, n_le_f, n_lt_t, n_lt_f, n_eq_t, n_eq_f, n_cl, n_gd, n_gdt, n_nz, Int.reduceToNat, Int.reduceAdd, Int.reduceSub, Int.reduceMul, Int.reduceNeg, Int.reduceLT, Int.reduceLE, Int.reduceEq, Int.reduceDiv, Int.reduceMod, Nat.reduceAdd, Nat.reduceMul, ↓reduceIte, u_eq, u_no, u_nk, u_ek, u_2, u_3, j_1, j_3, j_eq, j_no, j_nk, ltd, bnd]
      · rw [b2 r r0 r1]
        unfold avq
        by_cases x : r = i
        · rw [x, if_neg (by omega), e, if_neg (by simp)]
        · by_cases y : i ≤ r ∧ onBd B (r % 5) (r / 5) = true
          · rw [if_pos y, if_pos ⟨by omega, y.2⟩]
          · rw [if_neg y, if_neg (fun z => y ⟨by omega, z.2⟩)]
    | true =>
      rw [e] at hpl
      obtain ⟨s1, a1, a2, a3, a4⟩ := c_harmTo hB (Or.inr rfl) hp h46 hPB hV g1 g2 g3 g4 ht ht0 hc hd0 hd1 q0 q1 i0 (by omega : i < 25)
      have hfe : hvm B t c (farO (q % 5) (q / 5) (i % 5) (i / 5)) d = hvq B t c q d i := by unfold hvq; rw [farO_sym]
      rw [hfe] at a1 a3 a4
      have ci := hS i i0 (by omega)
      have hf : ∀ a k : Nat, ¬ a = 52 → ¬ a = 53 → ¬ a = 55 → ¬ a = 64 → (uI s1 64 i.toNat (Int32.ofInt (V i + hvq B t c q d i))).1 a k = s.1 a k := fun a k x y z w => by rw [u_no w, a2.1 a k x y z]
      obtain ⟨s', b1, b2, b3, b4⟩ := ih F (i + 1) (setP V i (V i + hvq B t c q d i)) (uI s1 64 i.toNat (Int32.ofInt (V i + hvq B t c q d i))) (by rw [u_3, a2.2]; exact h0) (by rw [u_3, a2.2]; exact h46) (PB_fr hPB (fun a k x y => hf a k (by omega) (by omega) (by omega) (by omega))) ((hf 46 11 (by omega) (by omega) (by omega) (by omega)).trans g1) ((hf 46 12 (by omega) (by omega) (by omega) (by omega)).trans g2) ((hf 46 13 (by omega) (by omega) (by omega) (by omega)).trans g3) ((hf 46 1 (by omega) (by omega) (by omega) (by omega)).trans g4) (fun r r0 r1 => by
        unfold setP
        by_cases x : r = i
        · rw [if_pos x, u_ek (by omega)]
        · rw [if_neg x, u_nk (by omega), a2.1 64 _ (by omega) (by omega) (by omega)]; exact hS r r0 r1) (by omega) (by omega) (by omega)
      refine ⟨s', ?_, fun r r0 r1 => ?_, fun a k x y z w => (b3 a k x y z w).trans (hf a k x y z w), b4.trans a2.2⟩
      · rw [← b1, f_X9_addHarm_L2]
        simp (disch := omega) only [h0, hpl, a1, ci, bI_t, g_kk, g_k1, g_n1, g_k2, g_n2, g_k3, g_n3, g_k4, g_n4, g_k5, g_n5, g_k7, g_n7, g_k8, g_n8, g_k9, g_n9, g_k6, g_r3, g_r4, g_r5, g_r6, g_r7, g_r10, g_q0, g_q1, g_q2, p_kk, p_k1, p_n1, p_k2, p_n2, p_k3, p_n3, p_k4, p_n4, p_k5, p_n5, p_k6, p_n6, p_k7, p_n7, p_k8, p_n8, p_k9, p_n9, p_k10, p_n10, p_k11, p_n11, p_k13, p_n13, p_k12, p_r2, p_r4, p_r5, p_r6, p_r7, p_r9, p_r10, p_r11, p_r13, p_r14, p_r15, p_r16, p_h0, n_i8, n_i16, n_0, n_31, n_add, n_sub, n_mul, n_neg, n_div, n_rem, n_le_t, n_le_f, n_lt_t, n_lt_f, n_eq_t, n_eq_f, n_cl, n_gd, n_gdt, n_nz, Int.reduceToNat, Int.reduceAdd, Int.reduceSub, Int.reduceMul, Int.reduceNeg, Int.reduceLT, Int.reduceLE, Int.reduceEq, Int.reduceDiv, Int.reduceMod, Nat.reduceAdd, Nat.reduceMul, ↓reduceIte, u_eq, u_no, u_nk, u_ek, u_2, u_3, j_1, j_3, j_eq, j_no, j_nk, ltd, bnd]
      · rw [b2 r r0 r1]
        unfold avq setP
        by_cases x : r = i
        · rw [x, if_neg (by omega), if_pos rfl, if_pos ⟨by omega, e⟩]
        · rw [if_neg x]
          by_cases y : i ≤ r ∧ onBd B (r % 5) (r / 5) = true
          · rw [if_pos y, if_pos ⟨by omega, y.2⟩]
          · rw [if_neg y, if_neg (fun z => y ⟨by omega, z.2⟩)]
theorem addh_at (B : Brd) (t c x y d : Int) : ∀ (n : Nat) (i : Int) (H : Int → Int) (k : Int), ((upto n i).foldl (addh B t c x y d) H) k = if i ≤ k ∧ k < i + n then H k + hvm B t c (farO (k % bW B) (k / bW B) x y) d else H k
  | 0, i, H, k => by rw [if_neg (by omega)]; rfl
  | n + 1, i, H, k => by
    rw [show upto (n + 1) i = i :: upto n (i + 1) from rfl, List.foldl_cons, addh_at B t c x y d n (i + 1)]
    unfold addh
    by_cases e : k = i
    · rw [if_neg (by omega), if_pos e, if_pos (by omega), e]
    · rw [if_neg e]
      by_cases e2 : i ≤ k ∧ k < i + ((n + 1 : Nat) : Int)
      · rw [if_pos (by omega), if_pos e2]
      · rw [if_neg (by omega), if_neg e2]
/-- harm at the board's squares -/
def HQ (B : Brd) (H : Int → Int) (s : ST) : Prop := ∃ V, HS V s ∧ ∀ k : Int, 0 ≤ k → k < bW B * bH B → V (p5 B k) = H k
theorem c_addHarm {B : Brd} {G : Gam} {p : Nat} {s : ST} (hV : Hv B) {A : CA} (hA : okA B G A) (hn : ¬ A.1 = -1) (hG : Gv B G) (h : GA B (mvK B G A.2.2.2.1 A.2.2.2.2) 46 p s) (h0 : RR s.2.2 0 3 = some p) (g11 : s.1 46 11 = Int32.ofInt (tkw B G A.2.2.2.2)) (g12 : s.1 46 12 = Int32.ofInt (p5 B A.2.2.2.2)) (g13 : s.1 46 13 = Int32.ofInt (ckv B G A.2.2.2.1 A.2.2.2.2)) (g1 : s.1 46 1 = Int32.ofInt (gd_ G)) {H : Int → Int} (hH : HQ B H s) : ∃ s', f_X9_addHarm s = some s' ∧ HQ B (lay B G A H) s' ∧ (∀ a k : Nat, ¬ a = 52 → ¬ a = 53 → ¬ a = 55 → ¬ a = 64 → s'.1 a k = s.1 a k) ∧ s'.2 = s.2 := by
  have hB := h.1.1
  rcases hA with hA | ⟨-, m1, m2, k1, k2, hsd, hgo⟩
  · exact absurd hA hn
  have hp5 := p5_x hB k1 k2
  have hp := h.2.1.2
  have htb := tkm_b (G := G) hB (k := A.2.2.2.2)
  have hck2 : lb (ckv B G A.2.2.2.1 A.2.2.2.2) := by unfold ckv lb; split <;> omega
  have hGd := hG.1
  obtain ⟨V, hS, hV2⟩ := hH
  obtain ⟨s', b1, b2, b3, b4⟩ := c_add_L hB hV hp (t := tkw B G A.2.2.2.2) (c := ckv B G A.2.2.2.1 A.2.2.2.2) (q := p5 B A.2.2.2.2) (d := gd_ G) ⟨by omega, by omega⟩ htb.2.1 hck2 hp5.2.2.1 hp5.2.2.2 hGd.1 hGd.2.1 25 fuel 0 V s h0 h.2.2.1 h.2.2.2.1 g11 g12 g13 g1 hS (by omega) (by omega) (by unfold fuel; omega)
  refine ⟨s', b1, ⟨_, b2, fun k k0 k1' => ?_⟩, b3, b4⟩
  have hk := p5_x hB k0 k1'
  have hxy := sq_xy hB k0 k1'
  have hob : onBd B (p5 B k % 5) (p5 B k / 5) = true := by rw [hk.1, hk.2.1]; exact onBd_i.mpr ⟨by omega, by omega⟩
  unfold avq
  rw [if_pos ⟨hk.2.2.1, hob⟩, hV2 k k0 k1']
  unfold lay sqs
  rw [addh_at, if_pos (by omega)]
  unfold hvq
  rw [hk.1, hk.2.1, hp5.1, hp5.2.1]
theorem HQ_fr {B : Brd} {H : Int → Int} {s s' : ST} (h : HQ B H s) (hf : ∀ k : Nat, s'.1 64 k = s.1 64 k) : HQ B H s' := by
  obtain ⟨V, a, b⟩ := h
  exact ⟨V, fun q q0 q1 => (hf _).trans (a q q0 q1), b⟩
theorem c_gath_L {B : Brd} {p : Nat} (hV : Hv B) (hBd : Bd B) {N : Int} (N1 : N ≤ 100) : ∀ (n F : Nat) (i : Int) (r : Gam × (Int → Int)) (s : ST), GT B r.1 46 p s → s.1 46 1 = Int32.ofInt (gd_ r.1) → DP B (-1) 0 46 s → RR s.2.2 0 3 = some p → HQ B r.2 s → gd_ r.1 + n ≤ 999 → 0 ≤ i → (n : Int) = N - i → n < F → ∃ s', f_X9_gatherHarm_L21 F (Int32.ofInt N) (Int32.ofInt i) s = some s' ∧ HQ B (sowN B n r).2 s' ∧ (∀ a k : Nat, ¬ (46 ≤ a ∧ a ≤ 55) → ¬ a = 64 → s'.1 a k = s.1 a k) ∧ s'.2 = s.2 := by
  intro n
  induction n with
  | zero =>
    intro F i r s h g1 hD h0 hH hd i0 hn hF
    obtain ⟨F, rfl⟩ : ∃ F', F = F' + 1 := ⟨F - 1, by omega⟩
    refine ⟨s, ?_, hH, fun _ _ _ _ => rfl, rfl⟩
    simp (disch := omega) only [f_X9_gatherHarm_L21, n_i8, n_i16, n_0, n_31, n_add, n_sub, n_mul, n_neg, n_div, n_rem, n_le_t, n_le_f, n_lt_t, n_lt_f, n_eq_t, n_eq_f, n_cl, n_gd, n_gdt, n_nz, Int.reduceToNat, Int.reduceAdd, Int.reduceSub, Int.reduceMul, Int.reduceNeg, Int.reduceLT, Int.reduceLE, Int.reduceEq, Int.reduceDiv, Int.reduceMod, Nat.reduceAdd, Nat.reduceMul, ↓reduceIte, u_eq, u_no, u_nk, u_ek, u_2, u_3, j_1, j_3, j_eq, j_no, j_nk, ltd, bnd]
  | succ n ih =>
    intro F i r s h g1 hD h0 hH hd i0 hn hF
    obtain ⟨F, rfl⟩ : ∃ F', F = F' + 1 := ⟨F - 1, by omega⟩
    have hB := h.1.1.1
    have hde := c_depth h hD
    obtain ⟨s1, a1, a2, a3⟩ := c_today h hBd (ds := -1) (db := 0) (Or.inl rfl)
    have hok : okA B r.1 (todA B (-1) 0 r.1) := okA_cb hB
    have g1' : s1.1 46 1 = Int32.ofInt (gd_ r.1) := (a3.1 46 1 (by omega) (by omega) (by omega) (by omega)).trans g1
    have hH1 : HQ B r.2 s1 := HQ_fr hH (fun k => a3.1 64 k (by omega) (by omega) (by omega) (by omega))
    have hDN : d999 (gd_ r.1) = gd_ (dayB B (-1) 0 r.1) := by unfold dayB; rw [dayG_d]; unfold d999; split <;> omega
    have hss : sowS B r = (dayB B (-1) 0 r.1, if (todA B (-1) 0 r.1).1 = -1 then r.2 else lay B r.1 (todA B (-1) 0 r.1) r.2) := rfl
    have hdb : dayB B (-1) 0 r.1 = dayG B r.1 (todA B (-1) 0 r.1) := rfl
    rw [show sowN B (n + 1) r = sowN B n (sowS B r) from rfl]
    by_cases e : (todA B (-1) 0 r.1).1 = -1
    · rw [if_pos e] at hss
      have hmc : mvC B (todA B (-1) 0 r.1) = -1 := by unfold mvC; rw [if_pos e]
      obtain ⟨s2, b1, b2, b3, b4⟩ := c_passDay a2 hV hok g1' (by omega)
      rw [hmc] at b1 a1
      have b1 : f_X3_turn 46 s1 = some s2 := by
        have hu : f_X3_passDay 46 (Int32.ofInt (-1)) s1 = (f_X3_turn 46 s1).bind (fun q5 => gd (kk 46 3) (some (Int32.ofInt (-1), q5))) := by
          simp (disch := omega) only [f_X3_passDay, f_X3_passDay_j16, n_i8, n_i16, n_0, n_31, n_add, n_sub, n_mul, n_neg, n_div, n_rem, n_le_t, n_le_f, n_lt_t, n_lt_f, n_eq_t, n_eq_f, n_cl, n_gd, n_gdt, n_nz, Int.reduceToNat, Int.reduceAdd, Int.reduceSub, Int.reduceMul, Int.reduceNeg, Int.reduceLT, Int.reduceLE, Int.reduceEq, Int.reduceDiv, Int.reduceMod, Nat.reduceAdd, Nat.reduceMul, ↓reduceIte]
        rw [hu] at b1
        obtain ⟨x, y1, y2⟩ := bd_some b1
        have y2 : some (Int32.ofInt (-1), x) = some (Int32.ofInt (tkA B r.1 (todA B (-1) 0 r.1)), s2) := y2
        injection y2 with y2
        injection y2 with _ y2
        rw [y1, y2]
      rw [hDN] at b3
      rw [← hdb] at b2
      obtain ⟨s3, c1, c2, c3, c4⟩ := ih F (i + 1) (sowS B r) s2 (by rw [hss]; exact b2) (by rw [hss]; exact b3) ⟨((b4.2.1 0).trans (a3.fd.2.1 0)).trans hD.1, ((b4.2.1 1).trans (a3.fd.2.1 1)).trans hD.2⟩ (by rw [b4.2.2, a3.2]; exact h0) (by rw [hss]; exact HQ_fr hH1 (fun k => b4.1 64 k (by omega))) (by rw [hss]; show gd_ (dayB B (-1) 0 r.1) + (n : Int) ≤ 999; rw [← hDN]; unfold d999; split <;> omega) (by omega) (by omega) (by omega)
      refine ⟨s3, ?_, c2, fun a k x y => by rw [c3 a k x y, b4.1 a k (by omega), a3.1 a k (by omega) (by omega) (by omega) (by omega)], c4.trans (b4.2.2.trans a3.2)⟩
      rw [← c1, f_X9_gatherHarm_L21]
      simp (disch := omega) only [f_X9_gatherHarm_j65, hde, a1, b1, n_i8, n_i16, n_0, n_31, n_add, n_sub, n_mul, n_neg, n_div, n_rem, n_le_t, n_le_f, n_lt_t, n_lt_f, n_eq_t, n_eq_f, n_cl, n_gd, n_gdt, n_nz, Int.reduceToNat, Int.reduceAdd, Int.reduceSub, Int.reduceMul, Int.reduceNeg, Int.reduceLT, Int.reduceLE, Int.reduceEq, Int.reduceDiv, Int.reduceMod, Nat.reduceAdd, Nat.reduceMul, ↓reduceIte, u_eq, u_no, u_nk, u_ek, u_2, u_3, j_1, j_3, j_eq, j_no, j_nk, ltd, bnd]
    · rw [if_neg e] at hss
      have hok' := hok
      rcases hok' with hok' | ⟨-, m1, m2, k1, k2, hsd, hgo⟩
      · exact absurd hok' e
      have hmc : mvC B (todA B (-1) 0 r.1) = 25 * (todA B (-1) 0 r.1).2.2.2.1 + p5 B (todA B (-1) 0 r.1).2.2.2.2 := by unfold mvC; rw [if_neg e]
      have hp5 := p5_x hB k1 k2
      have hM : bM B ≤ 8 := hB.1.1.2.2.2.2.2.2.2.1
      rw [hmc] at a1
      obtain ⟨s2, b1, b2, ⟨b3, b4, b5⟩, b6⟩ := c_strike a2.1 m1 m2 k1 k2 hgo hsd
      have hGB2 : GB B (mvK B r.1 (todA B (-1) 0 r.1).2.2.2.1 (todA B (-1) 0 r.1).2.2.2.2) 46 s2 := fun f f0 f1 => (b6.1 _ _ (by omega) (by omega) (by omega) (by omega)).trans (a2.2.2 f f0 f1)
      have g12 : s2.1 46 1 = Int32.ofInt (gd_ r.1) := (b6.1 46 1 (by omega) (by omega) (by omega) (by omega)).trans g1'
      have hs2 : s2.2 = s.2 := b6.2.trans a3.2
      obtain ⟨s3, d1, d2, d3, d4⟩ := c_addHarm hV hok e h.1.1.2 b2 (by rw [hs2]; exact h0) b3 b4 b5 g12 (H := r.2) (HQ_fr hH1 (fun k => b6.1 64 k (by omega) (by omega) (by omega) (by omega)))
      have hp := b2.2.1.2
      have b2' : GA B (mvK B r.1 (todA B (-1) 0 r.1).2.2.2.1 (todA B (-1) 0 r.1).2.2.2.2) 46 p s3 := GA_fr b2 (by rw [d4]) (fun a k x y => d3 a k (by omega) (by omega) (by omega) (by omega)) (fun k => ⟨d3 _ k (by omega) (by omega) (by omega) (by omega), d3 _ k (by omega) (by omega) (by omega) (by omega), d3 _ k (by omega) (by omega) (by omega) (by omega)⟩) (d3 46 8 (by omega) (by omega) (by omega) (by omega)) (d3 46 9 (by omega) (by omega) (by omega) (by omega))
      have g13 : s3.1 46 1 = Int32.ofInt (gd_ r.1) := (d3 46 1 (by omega) (by omega) (by omega) (by omega)).trans g12
      obtain ⟨s4, w1, w2, w3, ⟨w4, w5⟩, w6⟩ := c_wither hV b2' (fun f f0 f1 => (d3 _ _ (by omega) (by omega) (by omega) (by omega)).trans (hGB2 f f0 f1)) k1 k2 ((d3 46 11 (by omega) (by omega) (by omega) (by omega)).trans b3) ((d3 46 12 (by omega) (by omega) (by omega) (by omega)).trans b4) ((d3 46 13 (by omega) (by omega) (by omega) (by omega)).trans b5) g13
      have hgs := h.1.1.2.1.2.2
      have hside : s4.1 46 2 = Int32.ofInt (gs r.1) := by
        rw [w4, d3 46 2 (by omega) (by omega) (by omega) (by omega), b6.1 46 2 (by omega) (by omega) (by omega) (by omega)]; exact a2.2.1
      obtain ⟨s5, t1, t2, t3, t4, t5, t6⟩ := c_turn w2 w3 hside hgs.1 hgs.2 (w5.trans g13) h.1.1.2.1.1 (by omega)
      have hdg : dayG B r.1 (todA B (-1) 0 r.1) = dayN ((flds B).foldl (grw B) (strG B r.1 (todA B (-1) 0 r.1).2.2.2.1 (todA B (-1) 0 r.1).2.2.2.2)) := by unfold dayG; rw [if_neg e]
      have hGv : Gv B (dayN ((flds B).foldl (grw B) (strG B r.1 (todA B (-1) 0 r.1).2.2.2.1 (todA B (-1) 0 r.1).2.2.2.2))) := Gv_dayN t2.1.2 (by rw [fold_d (B := B) (g := grw B) (fun _ _ => rfl), strG_d]; omega)
      have hGT : GT B (dayB B (-1) 0 r.1) 46 p s5 := by
        refine ⟨?_, ?_, ?_⟩
        · rw [hdb, hdg]; exact GA_cg t2 (fun m => rfl) (fun m => rfl) hGv
        · unfold GS; rw [hdb, dayG_s]; exact t4
        · rw [hdb, hdg]
          intro f f0 f1
          rw [t3 f f0 f1, dayN_b]
      have hF4 : ∀ a k : Nat, ¬ (46 ≤ a ∧ a ≤ 55) → ¬ a = 64 → s5.1 a k = s.1 a k := fun a k x y => by
        rw [t6.1 a k (by omega), w6.1 a k (by omega), d3 a k (by omega) (by omega) (by omega) y, b6.1 a k (by omega) (by omega) (by omega) (by omega), a3.1 a k (by omega) (by omega) (by omega) (by omega)]
      have hF2 : s5.2 = s.2 := t6.2.2.trans (w6.2.2.trans (d4.trans hs2))
      have hF47 : ∀ k : Nat, s5.1 47 k = s.1 47 k := fun k => by
        have x1 := t6.2.1 k
        have x2 := w6.2.1 k
        exact x1.trans (x2.trans ((d3 47 k (by omega) (by omega) (by omega) (by omega)).trans ((b6.1 47 k (by omega) (by omega) (by omega) (by omega)).trans (a3.1 47 k (by omega) (by omega) (by omega) (by omega)))))
      rw [hDN] at t5
      obtain ⟨s6, c1, c2, c3, c4⟩ := ih F (i + 1) (sowS B r) s5 (by rw [hss]; exact hGT) (by rw [hss]; exact t5) ⟨(hF47 0).trans hD.1, (hF47 1).trans hD.2⟩ (by rw [hF2]; exact h0) (by rw [hss]; exact HQ_fr (HQ_fr d2 (fun k => w6.1 64 k (by omega))) (fun k => t6.1 64 k (by omega))) (by rw [hss]; show gd_ (dayB B (-1) 0 r.1) + (n : Int) ≤ 999; rw [← hDN]; unfold d999; split <;> omega) (by omega) (by omega) (by omega)
      refine ⟨s6, ?_, c2, fun a k x y => (c3 a k x y).trans (hF4 a k x y), c4.trans hF2⟩
      rw [← c1, f_X9_gatherHarm_L21]
      simp (disch := omega) only [f_X9_gatherHarm_j65, hde, a1, b1, d1, w1, t1, n_i8, n_i16, n_0, n_31, n_add, n_sub, n_mul, n_neg, n_div, n_rem, n_le_t, n_le_f, n_lt_t, n_lt_f, n_eq_t, n_eq_f, n_cl, n_gd, n_gdt, n_nz, Int.reduceToNat, Int.reduceAdd, Int.reduceSub, Int.reduceMul, Int.reduceNeg, Int.reduceLT, Int.reduceLE, Int.reduceEq, Int.reduceDiv, Int.reduceMod, Nat.reduceAdd, Nat.reduceMul, ↓reduceIte, u_eq, u_no, u_nk, u_ek, u_2, u_3, j_1, j_3, j_eq, j_no, j_nk, ltd, bnd]
theorem k64 {α : Type} {x : Option α} : gd (kk 64 13) x = x := rfl
theorem kr64 {α : Type} {x : Option α} : gd (kr 64) x = x := rfl
theorem c_gather {B : Brd} {G : Gam} {brd : Bool} {p : Nat} {s : ST} (h : CQ B G brd p s) {n : Int} (ha : ahd G brd n 0 20) : ∃ s', f_X9_gatherHarm (Int32.ofInt n) s = some s' ∧ HQ B (sowH B G n) s' ∧ CQ B G brd p s' ∧ XF s s' := by
  have hBd := (h.2.2.1 ha.1).1
  have hn := ha.2.1
  obtain ⟨s1, q1, q2, q3, q4⟩ := c_fill (a := 64) (N := 25) (x := Int32.ofInt 0) (fun {α} {y} => k64) (fun {α} {y} => kr64) rfl (by omega) s
  have h1 := CQ_tr h (fun a k x y z => q3 a k (by omega)) q4
  obtain ⟨s2, a1, a2, a3, a4, a5, a6⟩ := c_copy h1.1.1 h1.2.1.2 h1.1.2.1 h1.1.2.2.1
  have hH : HQ B (fun _ => 0) s2 := ⟨fun _ => 0, fun q q0 q1' => by rw [a5 64 _ (by omega), q2 _ (by omega)], fun _ _ _ => rfl⟩
  obtain ⟨s3, b1, b2, b3, b4⟩ := c_gath_L h.1.2.2.2 hBd (N := n) (by omega) n.toNat fuel 0 (G, fun _ => 0) s2 a2 a3 a4 (by rw [a6]; exact h1.2.1.1) hH (by have := ha.2.2; show gd_ G + (n.toNat : Int) ≤ 999; omega) (by omega) (by omega) (by unfold fuel; omega)
  have hx : ∀ a k : Nat, ¬ (46 ≤ a ∧ a ≤ 55) → ¬ a = 64 → s3.1 a k = s.1 a k := fun a k x y => by rw [b3 a k x y, a5 a k x, q3 a k y]
  have h2 : s3.2 = s.2 := b4.trans (a6.trans q4)
  refine ⟨s3, ?_, b2, CQ_tr h (fun a k x y z => hx a k x (by omega)) h2, ⟨fun a k x y => hx a k (by omega) y, h2⟩⟩
  simp (disch := omega) only [f_X9_gatherHarm, q1, a1, b1, u_eq, u_no, u_nk, u_ek, u_2, u_3, j_1, j_3, j_eq, j_no, j_nk, ltd, bnd]
def lsC (V : Int → Int) (b q : Int) : Int := if V q < V b then q else b
theorem c_least_L {B : Brd} {p : Nat} {V : Int → Int} {s : ST} (hB : Bv B) (hp : p = 6 ∨ p = 20) (h0 : RR s.2.2 0 3 = some p) (hPB : PB B p s) (hS : HS V s) (hb : ∀ q, 0 ≤ q → q < 25 → onBd B (q % 5) (q / 5) = true → 0 ≤ V q ∧ V q ≤ 500000000) : ∀ (n F : Nat) (i b : Int), 0 ≤ i → (n : Int) = 25 - i → n < F → 0 ≤ b → b < 25 → onBd B (b % 5) (b / 5) = true → f_X9_leastHarmed_L4 F (Int32.ofInt b) (Int32.ofInt i) s = some (Int32.ofInt (((upto n i).filter (fun q => onBd B (q % 5) (q / 5))).foldl (lsC V) b), s) := by
  intro n
  induction n with
  | zero =>
    intro F i b i0 hn hF b0 b1 hob
    obtain ⟨F, rfl⟩ : ∃ F', F = F' + 1 := ⟨F - 1, by omega⟩
    simp (disch := omega) only [f_X9_leastHarmed_L4, upto, List.filter_nil, List.foldl_nil, n_i8, n_i16, n_0, n_31, n_add, n_sub, n_mul, n_neg, n_div, n_rem, n_le_t, n_le_f, n_lt_t, n_lt_f, n_eq_t, n_eq_f, n_cl, n_gd, n_gdt, n_nz, Int.reduceToNat, Int.reduceAdd, Int.reduceSub, Int.reduceMul, Int.reduceNeg, Int.reduceLT, Int.reduceLE, Int.reduceEq, Int.reduceDiv, Int.reduceMod, Nat.reduceAdd, Nat.reduceMul, ↓reduceIte, u_eq, u_no, u_nk, u_ek, u_2, u_3, j_1, j_3, j_eq, j_no, j_nk, ltd, bnd]
  | succ n ih =>
    intro F i b i0 hn hF b0 b1 hob
    obtain ⟨F, rfl⟩ : ∃ F', F = F' + 1 := ⟨F - 1, by omega⟩
    have hpl := c_isPlace hB hp hPB (x := i % 5) (y := i / 5) (by omega) (by omega) (by omega) (by omega)
    have hoi : onBd B (i % 5) (i / 5) = decide ((0 ≤ i % 5 ∧ i % 5 < bW B) ∧ (0 ≤ i / 5 ∧ i / 5 < bH B)) := rfl
    rw [← hoi] at hpl
    have ci := hS i i0 (by omega)
    have cb := hS b b0 b1
    simp only [upto]
    cases e : onBd B (i % 5) (i / 5) with
    | false =>
      rw [e] at hpl
      have hfc : List.filter (fun q => onBd B (q % 5) (q / 5)) (i :: upto n (i + 1)) = List.filter (fun q => onBd B (q % 5) (q / 5)) (upto n (i + 1)) := List.filter_cons_of_neg (by show ¬ onBd B (i % 5) (i / 5) = true; rw [e]; decide)
      rw [hfc, ← ih F (i + 1) b (by omega) (by omega) (by omega) b0 b1 hob, f_X9_leastHarmed_L4]
      simp (disch := omega) only [h0, hpl, bI_f, g_kk, g_k1, g_n1, g_k2, g_n2, g_k3, g_n3, g_k4, g_n4, g_k5, g_n5, g_k7, g_n7, g_k8, g_n8, g_k9, g_n9, g_k6, g_r3, g_r4, g_r5, g_r6, g_r7, g_r10, g_q0, g_q1, g_q2, p_kk, p_k1, p_n1, p_k2, p_n2, p_k3, p_n3, p_k4, p_n4, p_k5, p_n5, p_k6, p_n6, p_k7, p_n7, p_k8, p_n8, p_k9, p_n9, p_k10, p_n10, p_k11, p_n11, p_k13, p_n13, p_k12, p_r2, p_r4, p_r5, p_r6, p_r7, p_r9, p_r10, p_r11, p_r13, p_r14, p_r15, p_r16, p_h0, n_i8, n_i16, n_0, n_31, n_add, n_sub, n_mul, n_neg, n_div, n_rem, n_le_t, n_le_f, n_lt_t, n_lt_f, n_eq_t, n_eq_f, n_cl, n_gd, n_gdt, n_nz, Int.reduceToNat, Int.reduceAdd, Int.reduceSub, Int.reduceMul, Int.reduceNeg, Int.reduceLT, Int.reduceLE, Int.reduceEq, Int.reduceDiv, Int.reduceMod, Nat.reduceAdd, Nat.reduceMul, ↓reduceIte, u_eq, u_no, u_nk, u_ek, u_2, u_3, j_1, j_3, j_eq, j_no, j_nk, ltd, bnd]
    | true =>
      rw [e] at hpl
      have hvi := hb i i0 (by omega) e
      have hvb := hb b b0 b1 hob
      have hfc : List.filter (fun q => onBd B (q % 5) (q / 5)) (i :: upto n (i + 1)) = i :: List.filter (fun q => onBd B (q % 5) (q / 5)) (upto n (i + 1)) := List.filter_cons_of_pos (by show onBd B (i % 5) (i / 5) = true; exact e)
      rw [hfc, List.foldl_cons]
      by_cases x : V i < V b
      · rw [show lsC V b i = i by unfold lsC; rw [if_pos x], ← ih F (i + 1) i (by omega) (by omega) (by omega) i0 (by omega) e, f_X9_leastHarmed_L4]
        simp (disch := omega) only [h0, hpl, ci, cb, bI_t, g_kk, g_k1, g_n1, g_k2, g_n2, g_k3, g_n3, g_k4, g_n4, g_k5, g_n5, g_k7, g_n7, g_k8, g_n8, g_k9, g_n9, g_k6, g_r3, g_r4, g_r5, g_r6, g_r7, g_r10, g_q0, g_q1, g_q2, p_kk, p_k1, p_n1, p_k2, p_n2, p_k3, p_n3, p_k4, p_n4, p_k5, p_n5, p_k6, p_n6, p_k7, p_n7, p_k8, p_n8, p_k9, p_n9, p_k10, p_n10, p_k11, p_n11, p_k13, p_n13, p_k12, p_r2, p_r4, p_r5, p_r6, p_r7, p_r9, p_r10, p_r11, p_r13, p_r14, p_r15, p_r16, p_h0, n_i8, n_i16, n_0, n_31, n_add, n_sub, n_mul, n_neg, n_div, n_rem, n_le_t, n_le_f, n_lt_t, n_lt_f, n_eq_t, n_eq_f, n_cl, n_gd, n_gdt, n_nz, Int.reduceToNat, Int.reduceAdd, Int.reduceSub, Int.reduceMul, Int.reduceNeg, Int.reduceLT, Int.reduceLE, Int.reduceEq, Int.reduceDiv, Int.reduceMod, Nat.reduceAdd, Nat.reduceMul, ↓reduceIte, u_eq, u_no, u_nk, u_ek, u_2, u_3, j_1, j_3, j_eq, j_no, j_nk, ltd, bnd]
      · rw [show lsC V b i = b by unfold lsC; rw [if_neg x], ← ih F (i + 1) b (by omega) (by omega) (by omega) b0 b1 hob, f_X9_leastHarmed_L4]
        simp (disch := omega) only [h0, hpl, ci, cb, bI_t, g_kk, g_k1, g_n1, g_k2, g_n2, g_k3, g_n3, g_k4, g_n4, g_k5, g_n5, g_k7, g_n7, g_k8, g_n8, g_k9, g_n9, g_k6, g_r3, g_r4, g_r5, g_r6, g_r7, g_r10, g_q0, g_q1, g_q2, p_kk, p_k1, p_n1, p_k2, p_n2, p_k3, p_n3, p_k4, p_n4, p_k5, p_n5, p_k6, p_n6, p_k7, p_n7, p_k8, p_n8, p_k9, p_n9, p_k10, p_n10, p_k11, p_n11, p_k13, p_n13, p_k12, p_r2, p_r4, p_r5, p_r6, p_r7, p_r9, p_r10, p_r11, p_r13, p_r14, p_r15, p_r16, p_h0, n_i8, n_i16, n_0, n_31, n_add, n_sub, n_mul, n_neg, n_div, n_rem, n_le_t, n_le_f, n_lt_t, n_lt_f, n_eq_t, n_eq_f, n_cl, n_gd, n_gdt, n_nz, Int.reduceToNat, Int.reduceAdd, Int.reduceSub, Int.reduceMul, Int.reduceNeg, Int.reduceLT, Int.reduceLE, Int.reduceEq, Int.reduceDiv, Int.reduceMod, Nat.reduceAdd, Nat.reduceMul, ↓reduceIte, u_eq, u_no, u_nk, u_ek, u_2, u_3, j_1, j_3, j_eq, j_no, j_nk, ltd, bnd]
theorem lsC_map {B : Brd} {V H : Int → Int} (hV : ∀ k : Int, 0 ≤ k → k < bW B * bH B → V (p5 B k) = H k) : ∀ (l : List Int) (b : Int), (∀ k ∈ l, 0 ≤ k ∧ k < bW B * bH B) → (0 ≤ b ∧ b < bW B * bH B) → (l.map (p5 B)).foldl (lsC V) (p5 B b) = p5 B (l.foldl (lstS H) b) ∧ (0 ≤ l.foldl (lstS H) b ∧ l.foldl (lstS H) b < bW B * bH B)
  | [], b, _, hb => ⟨rfl, hb⟩
  | k :: l, b, hl, hb => by
    have hk := hl k List.mem_cons_self
    rw [List.map_cons, List.foldl_cons, List.foldl_cons]
    have e : lsC V (p5 B b) (p5 B k) = p5 B (lstS H b k) := by
      unfold lsC lstS
      rw [hV k hk.1 hk.2, hV b hb.1 hb.2]
      split <;> rfl
    rw [e]
    exact lsC_map hV l _ (fun j hj => hl j (List.mem_cons_of_mem _ hj)) (by unfold lstS; split <;> omega)
theorem sow_b {B : Brd} (hB : Bv B) (hV : Hv B) : ∀ (n : Nat) (r : Gam × (Int → Int)) (M : Int), Gv B r.1 → gd_ r.1 + n ≤ 999 → Hb r.2 M → Hb (sowN B n r).2 (M + 25000000 * n)
  | 0, r, M, _, _, h => by
    intro k
    have := h k
    show 0 ≤ r.2 k ∧ r.2 k ≤ _
    omega
  | n + 1, r, M, hG, hd, h => by
    rw [show sowN B (n + 1) r = sowN B n (sowS B r) from rfl]
    have hok : okA B r.1 (todA B (-1) 0 r.1) := okA_cb hB
    have hG' : Gv B (sowS B r).1 := by
      show Gv B (dayG B r.1 (todA B (-1) 0 r.1))
      exact Gv_dayG hB hV hG hok (by omega)
    have hH' : Hb (sowS B r).2 (M + 25000000) := by
      show Hb (if (todA B (-1) 0 r.1).1 = -1 then r.2 else lay B r.1 (todA B (-1) 0 r.1) r.2) _
      by_cases e : (todA B (-1) 0 r.1).1 = -1
      · rw [if_pos e]; intro k; have := h k; omega
      · rw [if_neg e]; exact lay_b hB hV hG hok e h
    have := sow_b hB hV n (sowS B r) (M + 25000000) hG' (by show gd_ (dayG B r.1 (todA B (-1) 0 r.1)) + (n : Int) ≤ 999; rw [dayG_d]; omega) hH'
    intro k
    have := this k
    omega
theorem c_sow {B : Brd} {G : Gam} {brd : Bool} {p : Nat} {s : ST} (h : CQ B G brd p s) {n w : Int} (n1 : -2147483648 ≤ n) (n2 : n ≤ 2147483647) (w1 : -2147483648 ≤ w) (w2 : w ≤ 2147483647) : (ahd G brd n 0 20 ∧ (0 ≤ w ∧ w ≤ 2) → ∃ s', f_X9_sow (Int32.ofInt n) (Int32.ofInt w) s = some (Int32.ofInt (aSow B (sowH B G n) w), s') ∧ CQ B G brd p s' ∧ XF s s') ∧ (¬ (ahd G brd n 0 20 ∧ (0 ≤ w ∧ w ≤ 2)) → f_X9_sow (Int32.ofInt n) (Int32.ofInt w) s = some (Int32.ofInt (-1), s)) := by
  have hc := c_canCome h n1 n2 (a := 0) (b := 20) (by omega) (by omega) (by omega) (by omega)
  constructor
  · rintro ⟨ha, hw⟩
    have hc := hc.1 ha
    have hB := h.1.1.1.1.1
    have hG := h.1.1.1.1.2
    have hWH := h.2.2.1 ha.1
    have hn := ha.2.1
    have hd := ha.2.2
    obtain ⟨s1, a1, ⟨V, a2, a2b⟩, a3, a4⟩ := c_gather h ha
    have hHb : Hb (sowH B G n) 500000000 := fun k => by
      have := sow_b hB h.1.2.2.2 n.toNat (G, fun _ => 0) 0 hG (by show gd_ G + (n.toNat : Int) ≤ 999; omega) (fun _ => by show (0 : Int) ≤ 0 ∧ (0 : Int) ≤ 0; omega) k
      unfold sowH
      omega
    have hW5 : bW B ≤ 5 := hB.1.1.2.1
    have hH5 : bH B ≤ 5 := hB.1.1.2.2.2.1
    have hWH4 : 4 ≤ bW B * bH B := Int.mul_le_mul (a := 2) (b := 2) (by omega) (by omega) (by omega) (by omega)
    have hbV : ∀ q, 0 ≤ q → q < 25 → onBd B (q % 5) (q / 5) = true → 0 ≤ V q ∧ V q ≤ 500000000 := by
      intro q q0 q1 hob
      have hm : q ∈ pls.filter (fun q => onBd B (q % 5) (q / 5)) := List.mem_filter.mpr ⟨mem_upto.mpr (by omega), hob⟩
      rw [pls_on hB] at hm
      obtain ⟨k, hk, rfl⟩ := List.mem_map.mp hm
      have hk := mem_upto.mp hk
      rw [a2b k (by omega) (by omega)]
      exact hHb k
    have h00 : onBd B (0 % 5) (0 / 5) = true := onBd_i.mpr ⟨by omega, by omega⟩
    have hl := c_least_L hB a3.1.1.1.2.1.2 a3.2.1.1 a3.1.1.1.2.2.2.1 a2 hbV 25 fuel 0 0 (by omega) (by omega) (by unfold fuel; omega) (by omega) (by omega) h00
    have hl : f_X9_leastHarmed s1 = some (Int32.ofInt ((pls.filter (fun q => onBd B (q % 5) (q / 5))).foldl (lsC V) 0), s1) := hl
    rw [pls_on hB] at hl
    have hp0 : p5 B 0 = 0 := by unfold p5; rw [Int.zero_ediv, Int.zero_emod]; rfl
    have hmap := lsC_map a2b (sqs B) 0 (fun k hk => by have := mem_upto.mp hk; omega) (by omega)
    rw [hp0] at hmap
    have hls : (sqs B).foldl (lstS (sowH B G n)) 0 = lst B (sowH B G n) := by
      unfold sqs lst
      obtain ⟨m, hm⟩ : ∃ m : Nat, (bW B * bH B).toNat = m + 1 := ⟨(bW B * bH B).toNat - 1, by omega⟩
      rw [hm, show (bW B * bH B - 1).toNat = m by omega, show upto (m + 1) 0 = 0 :: upto m 1 from rfl, List.foldl_cons]
      rw [show lstS (sowH B G n) 0 0 = 0 by unfold lstS; split <;> rfl]
    rw [hmap.1, hls] at hl
    rw [hls] at hmap
    have hk := p5_x hB hmap.2.1 hmap.2.2
    have hv := hHb (lst B (sowH B G n))
    have cv := a2 (p5 B (lst B (sowH B G n))) hk.2.2.1 hk.2.2.2
    rw [a2b _ hmap.2.1 hmap.2.2] at cv
    refine ⟨s1, ?_, a3, a4⟩
    unfold aSow
    have : w = 0 ∨ w = 1 ∨ w = 2 := by omega
    rcases this with rfl | rfl | rfl
    · rw [if_pos rfl, ← hk.1]
      simp (disch := omega) only [f_X9_sow, hc, a1, hl, n_i8, n_i16, n_0, n_31, n_add, n_sub, n_mul, n_neg, n_div, n_rem, n_le_t, n_le_f, n_lt_t, n_lt_f, n_eq_t, n_eq_f, n_cl, n_gd, n_gdt, n_nz, Int.reduceToNat, Int.reduceAdd, Int.reduceSub, Int.reduceMul, Int.reduceNeg, Int.reduceLT, Int.reduceLE, Int.reduceEq, Int.reduceDiv, Int.reduceMod, Nat.reduceAdd, Nat.reduceMul, ↓reduceIte, u_eq, u_no, u_nk, u_ek, u_2, u_3, j_1, j_3, j_eq, j_no, j_nk, ltd, bnd, n_l1, n_l2, n_l3, n_l4, n_l5, n_l6, n_l7, n_l8, n_l9, n_l10, n_l11, n_l12, n_l13, n_l14, n_l15, n_l16, n_l17, n_l18, n_l19, n_l20, n_l21, n_l22, n_l23, n_l24, n_l25, n_l26, n_l27, n_l28, n_l29, n_l30, n_l31, n_l32, n_l33, n_l34, n_l35, n_l36, n_l37, n_l38, n_l39, n_l40, n_l41, n_l42, n_l43, n_l44, n_l45, n_l46, n_l47, n_l48, n_l49, n_l50, n_l51, n_l52, n_l53, n_l54, n_l55, n_l56, n_l57, n_l58, n_l59, n_l60]
    · rw [if_neg (by omega), if_pos rfl, ← hk.2.1]
      simp (disch := omega) only [f_X9_sow, hc, a1, hl, n_i8, n_i16, n_0, n_31, n_add, n_sub, n_mul, n_neg, n_div, n_rem, n_le_t, n_le_f, n_lt_t, n_lt_f, n_eq_t, n_eq_f, n_cl, n_gd, n_gdt, n_nz, Int.reduceToNat, Int.reduceAdd, Int.reduceSub, Int.reduceMul, Int.reduceNeg, Int.reduceLT, Int.reduceLE, Int.reduceEq, Int.reduceDiv, Int.reduceMod, Nat.reduceAdd, Nat.reduceMul, ↓reduceIte, u_eq, u_no, u_nk, u_ek, u_2, u_3, j_1, j_3, j_eq, j_no, j_nk, ltd, bnd, n_l1, n_l2, n_l3, n_l4, n_l5, n_l6, n_l7, n_l8, n_l9, n_l10, n_l11, n_l12, n_l13, n_l14, n_l15, n_l16, n_l17, n_l18, n_l19, n_l20, n_l21, n_l22, n_l23, n_l24, n_l25, n_l26, n_l27, n_l28, n_l29, n_l30, n_l31, n_l32, n_l33, n_l34, n_l35, n_l36, n_l37, n_l38, n_l39, n_l40, n_l41, n_l42, n_l43, n_l44, n_l45, n_l46, n_l47, n_l48, n_l49, n_l50, n_l51, n_l52, n_l53, n_l54, n_l55, n_l56, n_l57, n_l58, n_l59, n_l60]
    · rw [if_neg (by omega), if_neg (by omega)]
      by_cases x : sowH B G n (lst B (sowH B G n)) ≤ 999999
      · rw [if_pos x]
        simp (disch := omega) only [f_X9_sow, hc, a1, hl, cv, n_i8, n_i16, n_0, n_31, n_add, n_sub, n_mul, n_neg, n_div, n_rem, n_le_t, n_le_f, n_lt_t, n_lt_f, n_eq_t, n_eq_f, n_cl, n_gd, n_gdt, n_nz, Int.reduceToNat, Int.reduceAdd, Int.reduceSub, Int.reduceMul, Int.reduceNeg, Int.reduceLT, Int.reduceLE, Int.reduceEq, Int.reduceDiv, Int.reduceMod, Nat.reduceAdd, Nat.reduceMul, ↓reduceIte, u_eq, u_no, u_nk, u_ek, u_2, u_3, j_1, j_3, j_eq, j_no, j_nk, ltd, bnd, n_l1, n_l2, n_l3, n_l4, n_l5, n_l6, n_l7, n_l8, n_l9, n_l10, n_l11, n_l12, n_l13, n_l14, n_l15, n_l16, n_l17, n_l18, n_l19, n_l20, n_l21, n_l22, n_l23, n_l24, n_l25, n_l26, n_l27, n_l28, n_l29, n_l30, n_l31, n_l32, n_l33, n_l34, n_l35, n_l36, n_l37, n_l38, n_l39, n_l40, n_l41, n_l42, n_l43, n_l44, n_l45, n_l46, n_l47, n_l48, n_l49, n_l50, n_l51, n_l52, n_l53, n_l54, n_l55, n_l56, n_l57, n_l58, n_l59, n_l60]
      · rw [if_neg x]
        simp (disch := omega) only [f_X9_sow, hc, a1, hl, cv, n_i8, n_i16, n_0, n_31, n_add, n_sub, n_mul, n_neg, n_div, n_rem, n_le_t, n_le_f, n_lt_t, n_lt_f, n_eq_t, n_eq_f, n_cl, n_gd, n_gdt, n_nz, Int.reduceToNat, Int.reduceAdd, Int.reduceSub, Int.reduceMul, Int.reduceNeg, Int.reduceLT, Int.reduceLE, Int.reduceEq, Int.reduceDiv, Int.reduceMod, Nat.reduceAdd, Nat.reduceMul, ↓reduceIte, u_eq, u_no, u_nk, u_ek, u_2, u_3, j_1, j_3, j_eq, j_no, j_nk, ltd, bnd, n_l1, n_l2, n_l3, n_l4, n_l5, n_l6, n_l7, n_l8, n_l9, n_l10, n_l11, n_l12, n_l13, n_l14, n_l15, n_l16, n_l17, n_l18, n_l19, n_l20, n_l21, n_l22, n_l23, n_l24, n_l25, n_l26, n_l27, n_l28, n_l29, n_l30, n_l31, n_l32, n_l33, n_l34, n_l35, n_l36, n_l37, n_l38, n_l39, n_l40, n_l41, n_l42, n_l43, n_l44, n_l45, n_l46, n_l47, n_l48, n_l49, n_l50, n_l51, n_l52, n_l53, n_l54, n_l55, n_l56, n_l57, n_l58, n_l59, n_l60]
  · intro hn
    by_cases e1 : w < 0
    · simp (disch := omega) only [f_X9_sow, n_i8, n_i16, n_0, n_31, n_add, n_sub, n_mul, n_neg, n_div, n_rem, n_le_t, n_le_f, n_lt_t, n_lt_f, n_eq_t, n_eq_f, n_cl, n_gd, n_gdt, n_nz, Int.reduceToNat, Int.reduceAdd, Int.reduceSub, Int.reduceMul, Int.reduceNeg, Int.reduceLT, Int.reduceLE, Int.reduceEq, Int.reduceDiv, Int.reduceMod, Nat.reduceAdd, Nat.reduceMul, ↓reduceIte, u_eq, u_no, u_nk, u_ek, u_2, u_3, j_1, j_3, j_eq, j_no, j_nk, ltd, bnd]
    by_cases e2 : 2 < w
    · simp (disch := omega) only [f_X9_sow, n_i8, n_i16, n_0, n_31, n_add, n_sub, n_mul, n_neg, n_div, n_rem, n_le_t, n_le_f, n_lt_t, n_lt_f, n_eq_t, n_eq_f, n_cl, n_gd, n_gdt, n_nz, Int.reduceToNat, Int.reduceAdd, Int.reduceSub, Int.reduceMul, Int.reduceNeg, Int.reduceLT, Int.reduceLE, Int.reduceEq, Int.reduceDiv, Int.reduceMod, Nat.reduceAdd, Nat.reduceMul, ↓reduceIte, u_eq, u_no, u_nk, u_ek, u_2, u_3, j_1, j_3, j_eq, j_no, j_nk, ltd, bnd]
    · have hc := hc.2 (fun ha => hn ⟨ha, by omega⟩)
      simp (disch := omega) only [f_X9_sow, hc, n_i8, n_i16, n_0, n_31, n_add, n_sub, n_mul, n_neg, n_div, n_rem, n_le_t, n_le_f, n_lt_t, n_lt_f, n_eq_t, n_eq_f, n_cl, n_gd, n_gdt, n_nz, Int.reduceToNat, Int.reduceAdd, Int.reduceSub, Int.reduceMul, Int.reduceNeg, Int.reduceLT, Int.reduceLE, Int.reduceEq, Int.reduceDiv, Int.reduceMod, Nat.reduceAdd, Nat.reduceMul, ↓reduceIte, u_eq, u_no, u_nk, u_ek, u_2, u_3, j_1, j_3, j_eq, j_no, j_nk, ltd, bnd]
