/-! L3: settle, copy of the class -/
theorem smL_last (f : Int → Int) : ∀ (n : Nat) (i : Int), smL f (upto (n + 1) i) = smL f (upto n i) + f (i + n)
  | 0, i => by simp only [upto, smL]; rw [show i + ((0 : Nat) : Int) = i by omega]; omega
  | n + 1, i => by
    have h := smL_last f n (i + 1)
    rw [show upto (n + 1 + 1) i = i :: upto (n + 1) (i + 1) from rfl, show upto (n + 1) i = i :: upto n (i + 1) from rfl]
    simp only [smL]
    rw [h, show i + 1 + (n : Int) = i + ((n + 1 : Nat) : Int) by omega]
    omega
theorem c_fill_L {a : Nat} {N : Nat} {x : Int32} (h1 : ∀ {α : Type} {y : Option α}, gd (kk a 13) y = y) (h3 : (K0 a).2 = N) (hN : N ≤ 2000) : ∀ (n F : Nat) (i : Int) (s : ST), 0 ≤ i → (n : Int) = (N : Int) - i → n < F → ∃ s', f_J7_fill_53178_L5 F a x (Int32.ofInt i) (Int32.ofInt (N : Int)) s = some s' ∧ (∀ k : Nat, i ≤ (k : Int) → k < N → s'.1 a k = x) ∧ (∀ b k : Nat, ¬ (b = a ∧ i ≤ (k : Int)) → s'.1 b k = s.1 b k) ∧ s'.2 = s.2 := by
  intro n
  induction n with
  | zero =>
    intro F i s h0 hn hF
    obtain ⟨F, rfl⟩ : ∃ F', F = F' + 1 := ⟨F - 1, by omega⟩
    refine ⟨s, ?_, fun k k0 k1 => by omega, fun _ _ _ => rfl, rfl⟩
    simp (disch := omega) only [f_J7_fill_53178_L5, n_i8, n_i16, n_0, n_31, n_add, n_sub, n_mul, n_neg, n_div, n_rem, n_le_t, n_le_f, n_lt_t, n_lt_f, n_eq_t, n_eq_f, n_cl, n_gd, n_gdt, n_nz, Int.reduceToNat, Int.reduceAdd, Int.reduceSub, Int.reduceMul, Int.reduceNeg, Int.reduceLT, Int.reduceLE, Int.reduceEq, Int.reduceDiv, Int.reduceMod, Nat.reduceAdd, Nat.reduceMul, ↓reduceIte, u_eq, u_no, u_nk, u_ek, u_2, u_3, j_1, j_3, j_eq, j_no, j_nk, ltd, bnd]
  | succ n ih =>
    intro F i s h0 hn hF
    obtain ⟨F, rfl⟩ : ∃ F', F = F' + 1 := ⟨F - 1, by omega⟩
    obtain ⟨s', q1, q2, q3, q4⟩ := ih F (i + 1) (uI s a i.toNat x) (by omega) (by omega) (by omega)
    refine ⟨s', ?_, fun k k0 k1 => ?_, fun b k hb => ?_, q4⟩
    · rw [← q1, f_J7_fill_53178_L5]
      simp (disch := omega) only [h1, h3, n_i8, n_i16, n_0, n_31, n_add, n_sub, n_mul, n_neg, n_div, n_rem, n_le_t, n_le_f, n_lt_t, n_lt_f, n_eq_t, n_eq_f, n_cl, n_gd, n_gdt, n_nz, Int.reduceToNat, Int.reduceAdd, Int.reduceSub, Int.reduceMul, Int.reduceNeg, Int.reduceLT, Int.reduceLE, Int.reduceEq, Int.reduceDiv, Int.reduceMod, Nat.reduceAdd, Nat.reduceMul, ↓reduceIte, u_eq, u_no, u_nk, u_ek, u_2, u_3, j_1, j_3, j_eq, j_no, j_nk, ltd, bnd]
    · by_cases e : (k : Int) = i
      · rw [q3 a k (by omega), u_ek (by omega)]
      · exact q2 k (by omega) k1
    · rw [q3 b k (by omega), ua, if_neg (by omega)]
theorem c_fill {a : Nat} {N : Nat} {x : Int32} (h1 : ∀ {α : Type} {y : Option α}, gd (kk a 13) y = y) (h2 : ∀ {α : Type} {y : Option α}, gd (kr a) y = y) (h3 : (K0 a).2 = N) (hN : N ≤ 2000) (s : ST) : ∃ s', f_J7_fill_53178 a x s = some s' ∧ (∀ k : Nat, k < N → s'.1 a k = x) ∧ (∀ b k : Nat, ¬ b = a → s'.1 b k = s.1 b k) ∧ s'.2 = s.2 := by
  obtain ⟨s', q1, q2, q3, q4⟩ := c_fill_L (x := x) h1 h3 hN N fuel 0 s (by omega) (by omega) (by unfold fuel; omega)
  refine ⟨s', ?_, fun k hk => q2 k (by omega) hk, fun b k hb => q3 b k (by omega), q4⟩
  have e : Int32.ofNat N = Int32.ofInt (N : Int) := (Int32.ofInt_eq_ofNat).symm
  rw [show f_J7_fill_53178 a x s = gd (kr a) (f_J7_fill_53178_L5 fuel a x (Int32.ofInt 0) (Int32.ofNat (K0 a).2) s) from rfl, h2, h3, e]
  exact q1
def stS (B : Brd) (G : Gam) (i q : Int) : Int := if mAt B G (q % 5) (q / 5) < i then mAt B G (q % 5) (q / 5) else -1
def stH (B : Brd) (G : Gam) (i t q : Int) : Bool := occ B G t q && decide (mAt B G (q % 5) (q / 5) < i)
def ctn1 (B : Brd) (G : Gam) (m : Int) : Int := b1 (isCr B m && tk G m)
theorem mAt_pl {B : Brd} {G : Gam} (hB : Bv B) (hG : Gv B G) {i q : Int} (i0 : 0 ≤ i) (i1 : i < bM B) (q0 : 0 ≤ q) (q1 : q < 25) : (mAt B G (q % 5) (q / 5) = i) ↔ pl G i = q := by
  have hM0 : 0 ≤ bM B := hB.1.1.2.2.2.2.2.2.1
  have hp := pl_b hB hG i0 i1
  constructor
  · intro h
    have hs := mAt_spec (B := B) hM0 G (q % 5) (q / 5)
    rw [h] at hs
    unfold pl
    rw [if_neg (by omega)]
    omega
  · intro h
    have : mAt B G (gx G i) (gy G i) = i := mAt_from hB hG i0 i1 (by omega)
    rw [show q % 5 = gx G i by omega, show q / 5 = gy G i by omega]
    exact this
theorem c_settle_L {B : Brd} {G : Gam} {o p : Nat} (hB : Bv B) (hG : Gv B G) (ho : o = 36 ∨ o = 46) (hp : p = 6 ∨ p = 20) : ∀ (n F : Nat) (i : Int) (s : ST), RR s.2.2 o 0 = some p → PB B p s → 0 ≤ i → (n : Int) = bM B - i → n < F → RP B o (pl G) (stS B G i) (stH B G i) (smL (bal1 B G 0) (upto i.toNat 0)) (smL (ctn1 B G) (upto i.toNat 0)) s → ∃ s', f_X3_settle_L34 F o (Int32.ofInt i) s = some s' ∧ RP B o (pl G) (stS B G (bM B)) (stH B G (bM B)) (smL (bal1 B G 0) (upto (bM B).toNat 0)) (smL (ctn1 B G) (upto (bM B).toNat 0)) s' ∧ Fm o s s' := by
  have hM : bM B ≤ 8 := hB.1.1.2.2.2.2.2.2.2.1
  intro n
  induction n with
  | zero =>
    intro F i s hP hPB h0 hn hF hR
    obtain ⟨F, rfl⟩ : ∃ F', F = F' + 1 := ⟨F - 1, by omega⟩
    have c8 : s.1 p 8 = Int32.ofInt (bM B) := hPB.1.2.2.2.1
    have e : i = bM B := by omega
    rw [e] at hR
    refine ⟨s, ?_, hR, Fm.rf o s⟩
    simp (disch := omega) only [f_X3_settle_L34, hP, c8, g_kk, g_k1, g_n1, g_k2, g_n2, g_k3, g_n3, g_k4, g_n4, g_k5, g_n5, g_k7, g_n7, g_k8, g_n8, g_k9, g_n9, g_k6, g_r3, g_r4, g_r5, g_r6, g_r7, g_r10, g_q0, g_q1, g_q2, p_kk, p_k1, p_n1, p_k2, p_n2, p_k3, p_n3, p_k4, p_n4, p_k5, p_n5, p_k6, p_n6, p_k7, p_n7, p_k8, p_n8, p_k9, p_n9, p_k10, p_n10, p_k11, p_n11, p_k13, p_n13, p_k12, p_r2, p_r4, p_r5, p_r6, p_r7, p_r9, p_r10, p_r11, p_r13, p_r14, p_r15, p_r16, p_h0, n_i8, n_i16, n_0, n_31, n_add, n_sub, n_mul, n_neg, n_div, n_rem, n_le_t, n_le_f, n_lt_t, n_lt_f, n_eq_t, n_eq_f, n_cl, n_gd, n_gdt, n_nz, Int.reduceToNat, Int.reduceAdd, Int.reduceSub, Int.reduceMul, Int.reduceNeg, Int.reduceLT, Int.reduceLE, Int.reduceEq, Int.reduceDiv, Int.reduceMod, Nat.reduceAdd, Nat.reduceMul, ↓reduceIte, u_eq, u_no, u_nk, u_ek, u_2, u_3, j_1, j_3, j_eq, j_no, j_nk, ltd, bnd]
  | succ n ih =>
    intro F i s hP hPB h0 hn hF hR
    obtain ⟨F, rfl⟩ : ∃ F', F = F' + 1 := ⟨F - 1, by omega⟩
    have c8 : s.1 p 8 = Int32.ofInt (bM B) := hPB.1.2.2.2.1
    have i1 : i < bM B := by omega
    have cpl := hR.1 i h0 i1
    have hpl := pl_b hB hG h0 i1
    have hmp := fun {q : Int} (q0 : 0 ≤ q) (q1 : q < 25) => mAt_pl hB hG h0 i1 q0 q1
    have el : ∀ f : Int → Int, smL f (upto (i + 1).toNat 0) = smL f (upto i.toNat 0) + f i := by
      intro f
      rw [show (i + 1).toNat = i.toNat + 1 by omega, smL_last, show (0 : Int) + (i.toNat : Int) = i by omega]
    rcases hpl with ⟨a, b⟩ | ⟨a1, a2, a3, a4, b, b0, b1', -, -⟩
    · -- taken
      have hne : ∀ q : Int, 0 ≤ q → q < 25 → ¬ mAt B G (q % 5) (q / 5) = i := fun q q0 q1 h => by
        have := (hmp q0 q1).mp h; omega
      have eb : bal1 B G 0 i = 0 := by unfold bal1; rw [if_pos a]
      have ec : ctn1 B G i = if isCr B i = true then 1 else 0 := by unfold ctn1 tk b1; rw [decide_eq_true a, Bool.and_true]
      rw [b] at cpl
      have hcr := c_isCrown hB hp hPB h0 i1
      have c9 := hR.2.2.2.2
      have hcong : ∀ {l c : Int} {s1 : ST}, RP B o (pl G) (stS B G i) (stH B G i) l c s1 → RP B o (pl G) (stS B G (i + 1)) (stH B G (i + 1)) l c s1 := fun h => RP_congr h (fun _ _ _ => rfl) (fun q q0 q1 => by
          have := hne q q0 q1
          unfold stS
          by_cases x : mAt B G (q % 5) (q / 5) < i
          · rw [if_pos x, if_pos (by omega)]
          · rw [if_neg x, if_neg (by omega)]) (fun t q _ _ q0 q1 => by
          have := hne q q0 q1
          unfold stH
          rw [show decide (mAt B G (q % 5) (q / 5) < i) = decide (mAt B G (q % 5) (q / 5) < i + 1) from decide_eq_decide.mpr (by omega)]) rfl rfl
      cases e : isCr B i with
      | true =>
        rw [e] at hcr ec
        rw [if_pos rfl] at ec
        have hR1 := hcong (RP_c hR (smL (ctn1 B G) (upto i.toNat 0) + 1))
        have hf1 := Fm_9 o s (Int32.ofInt (smL (ctn1 B G) (upto i.toNat 0) + 1))
        obtain ⟨s', q1, q2, q3⟩ := ih F (i + 1) (uI s o 9 (Int32.ofInt (smL (ctn1 B G) (upto i.toNat 0) + 1))) hP (PB_Fm ho hp hPB hf1) (by omega) (by omega) (by omega) (by rw [el, el, eb, ec, Int.add_zero]; exact hR1)
        refine ⟨s', ?_, q2, hf1.tr q3⟩
        rw [← q1, f_X3_settle_L34]
        simp (disch := omega) only [hP, c8, cpl, hcr, c9, bI_t, g_kk, g_k1, g_n1, g_k2, g_n2, g_k3, g_n3, g_k4, g_n4, g_k5, g_n5, g_k7, g_n7, g_k8, g_n8, g_k9, g_n9, g_k6, g_r3, g_r4, g_r5, g_r6, g_r7, g_r10, g_q0, g_q1, g_q2, p_kk, p_k1, p_n1, p_k2, p_n2, p_k3, p_n3, p_k4, p_n4, p_k5, p_n5, p_k6, p_n6, p_k7, p_n7, p_k8, p_n8, p_k9, p_n9, p_k10, p_n10, p_k11, p_n11, p_k13, p_n13, p_k12, p_r2, p_r4, p_r5, p_r6, p_r7, p_r9, p_r10, p_r11, p_r13, p_r14, p_r15, p_r16, p_h0, n_i8, n_i16, n_0, n_31, n_add, n_sub, n_mul, n_neg, n_div, n_rem, n_le_t, n_le_f, n_lt_t, n_lt_f, n_eq_t, n_eq_f, n_cl, n_gd, n_gdt, n_nz, Int.reduceToNat, Int.reduceAdd, Int.reduceSub, Int.reduceMul, Int.reduceNeg, Int.reduceLT, Int.reduceLE, Int.reduceEq, Int.reduceDiv, Int.reduceMod, Nat.reduceAdd, Nat.reduceMul, ↓reduceIte, u_eq, u_no, u_nk, u_ek, u_2, u_3, j_1, j_3, j_eq, j_no, j_nk, ltd, bnd]
      | false =>
        rw [e] at hcr ec
        rw [if_neg (by decide)] at ec
        obtain ⟨s', q1, q2, q3⟩ := ih F (i + 1) s hP hPB (by omega) (by omega) (by omega) (by rw [el, el, eb, ec, Int.add_zero, Int.add_zero]; exact hcong hR)
        refine ⟨s', ?_, q2, q3⟩
        rw [← q1, f_X3_settle_L34]
        simp (disch := omega) only [hP, c8, cpl, hcr, bI_f, g_kk, g_k1, g_n1, g_k2, g_n2, g_k3, g_n3, g_k4, g_n4, g_k5, g_n5, g_k7, g_n7, g_k8, g_n8, g_k9, g_n9, g_k6, g_r3, g_r4, g_r5, g_r6, g_r7, g_r10, g_q0, g_q1, g_q2, p_kk, p_k1, p_n1, p_k2, p_n2, p_k3, p_n3, p_k4, p_n4, p_k5, p_n5, p_k6, p_n6, p_k7, p_n7, p_k8, p_n8, p_k9, p_n9, p_k10, p_n10, p_k11, p_n11, p_k13, p_n13, p_k12, p_r2, p_r4, p_r5, p_r6, p_r7, p_r9, p_r10, p_r11, p_r13, p_r14, p_r15, p_r16, p_h0, n_i8, n_i16, n_0, n_31, n_add, n_sub, n_mul, n_neg, n_div, n_rem, n_le_t, n_le_f, n_lt_t, n_lt_f, n_eq_t, n_eq_f, n_cl, n_gd, n_gdt, n_nz, Int.reduceToNat, Int.reduceAdd, Int.reduceSub, Int.reduceMul, Int.reduceNeg, Int.reduceLT, Int.reduceLE, Int.reduceEq, Int.reduceDiv, Int.reduceMod, Nat.reduceAdd, Nat.reduceMul, ↓reduceIte, u_eq, u_no, u_nk, u_ek, u_2, u_3, j_1, j_3, j_eq, j_no, j_nk, ltd, bnd]
    · -- he stands
      have ng : ¬ gx G i = -1 := by omega
      have eb : bal1 B G 0 i = ldV B i := by unfold bal1 ldV; rw [if_neg ng]
      have ec : ctn1 B G i = 0 := by unfold ctn1 tk; rw [decide_eq_false ng, Bool.and_false]; rfl
      obtain ⟨s1, p1, p2, p3⟩ := c_set hB ho hp hP hPB hR h0 i1 b0 b1'
      have hP1 : RR s1.2.2 o 0 = some p := by rw [p3.2]; exact hP
      have hld := c_leadOf hB ho hp hP1 (PB_Fm ho hp hPB p3) h0 i1
      have c8' := p2.2.2.2.1
      have hR1 : RP B o (pl G) (stS B G (i + 1)) (stH B G (i + 1)) (smL (bal1 B G 0) (upto i.toNat 0)) (smL (ctn1 B G) (upto i.toNat 0)) s1 := by
        refine RP_congr p2 (fun m m0 m1 => ?_) (fun q q0 q1 => ?_) (fun t q t0 t1 q0 q1 => ?_) rfl rfl
        · unfold setP; split
          · rename_i h; rw [h]
          · rfl
        · have := hmp q0 q1
          unfold setP stS
          by_cases x : q = pl G i
          · rw [if_pos x, this.mpr x.symm, if_pos (by omega)]
          · rw [if_neg x]
            have hx : ¬ mAt B G (q % 5) (q / 5) = i := fun h => x (this.mp h).symm
            by_cases y : mAt B G (q % 5) (q / 5) < i
            · rw [if_pos y, if_pos (by omega)]
            · rw [if_neg y, if_neg (by omega)]
        · have := hmp q0 q1
          unfold addH stH
          by_cases x : q = pl G i
          · have hq : occ B G t q = decide (sd B i = t) := by rw [x]; exact occ_at hB hG h0 i1 ng
            rw [hq, this.mpr x.symm, decide_eq_true x, decide_eq_false (by omega : ¬ i < i), decide_eq_true (by omega : i < i + 1)]
            by_cases z : t = sd B i
            · rw [if_pos z, decide_eq_true z.symm]; rfl
            · rw [if_neg z, decide_eq_false (fun h => z h.symm)]; rfl
          · have hx : ¬ mAt B G (q % 5) (q / 5) = i := fun h => x (this.mp h).symm
            rw [decide_eq_false x, Bool.or_false, show decide (mAt B G (q % 5) (q / 5) < i) = decide (mAt B G (q % 5) (q / 5) < i + 1) from decide_eq_decide.mpr (by omega)]
            split <;> rfl
      have hR2 := RP_l hR1 (smL (bal1 B G 0) (upto i.toNat 0) + ldV B i)
      have hf1 := p3.tr (Fm_8 o s1 (Int32.ofInt (smL (bal1 B G 0) (upto i.toNat 0) + ldV B i)))
      obtain ⟨s', q1, q2, q3⟩ := ih F (i + 1) _ (by rw [u_3]; exact hP1) (PB_Fm ho hp hPB hf1) (by omega) (by omega) (by omega) (by rw [el, el, eb, ec, Int.add_zero]; exact hR2)
      refine ⟨s', ?_, q2, hf1.tr q3⟩
      rw [← q1, f_X3_settle_L34]
      simp (disch := omega) only [hP, c8, cpl, p1, hld, c8', g_kk, g_k1, g_n1, g_k2, g_n2, g_k3, g_n3, g_k4, g_n4, g_k5, g_n5, g_k7, g_n7, g_k8, g_n8, g_k9, g_n9, g_k6, g_r3, g_r4, g_r5, g_r6, g_r7, g_r10, g_q0, g_q1, g_q2, p_kk, p_k1, p_n1, p_k2, p_n2, p_k3, p_n3, p_k4, p_n4, p_k5, p_n5, p_k6, p_n6, p_k7, p_n7, p_k8, p_n8, p_k9, p_n9, p_k10, p_n10, p_k11, p_n11, p_k13, p_n13, p_k12, p_r2, p_r4, p_r5, p_r6, p_r7, p_r9, p_r10, p_r11, p_r13, p_r14, p_r15, p_r16, p_h0, n_i8, n_i16, n_0, n_31, n_add, n_sub, n_mul, n_neg, n_div, n_rem, n_le_t, n_le_f, n_lt_t, n_lt_f, n_eq_t, n_eq_f, n_cl, n_gd, n_gdt, n_nz, Int.reduceToNat, Int.reduceAdd, Int.reduceSub, Int.reduceMul, Int.reduceNeg, Int.reduceLT, Int.reduceLE, Int.reduceEq, Int.reduceDiv, Int.reduceMod, Nat.reduceAdd, Nat.reduceMul, ↓reduceIte, u_eq, u_no, u_nk, u_ek, u_2, u_3, j_1, j_3, j_eq, j_no, j_nk, ltd, bnd]
theorem g_kr4 {α : Type} {o : Nat} (h : o = 36 ∨ o = 46) {x : Option α} : gd (kr (o + 4)) x = x := by rcases h with rfl | rfl <;> rfl
theorem c_settle {B : Brd} {G : Gam} {o p : Nat} {s : ST} (hB : Bv B) (hG : Gv B G) (ho : o = 36 ∨ o = 46) (hp : p = 6 ∨ p = 20) (hP : RR s.2.2 o 0 = some p) (hPB : PB B p s) (hpl : ∀ m : Int, 0 ≤ m → m < bM B → s.1 (o + 2) m.toNat = Int32.ofInt (pl G m)) : ∃ s', f_X3_settle o s = some s' ∧ GA B G o p s' ∧ Fm o s s' := by
  have hM : bM B ≤ 8 := hB.1.1.2.2.2.2.2.2.2.1
  have hM0 : 0 ≤ bM B := hB.1.1.2.2.2.2.2.2.1
  obtain ⟨s1, q1, q2, q3, q4⟩ := c_fill (a := o + 4) (N := 25) (x := Int32.ofInt (-1)) (fun {α} {y} => g_k4 ho) (fun {α} {y} => g_kr4 ho) (g_n4 ho) (by omega) s
  have hms : ∀ q : Int, -1 ≤ mAt B G (q % 5) (q / 5) ∧ mAt B G (q % 5) (q / 5) < bM B := fun q => by
    have := mAt_spec (B := B) hM0 G (q % 5) (q / 5); omega
  have f1 : Fm o s (uI (uI (uI (uI s1 (o + 5) 0 (Int32.ofInt 0)) (o + 5) 1 (Int32.ofInt 0)) o 8 (Int32.ofInt 0)) o 9 (Int32.ofInt 0)) := by
    refine ⟨fun a k x y z w => ?_, q4⟩
    rw [ua, if_neg (by omega), ua, if_neg (by omega), ua, if_neg (by omega), ua, if_neg (by omega), q3 a k y]
  have hR : RP B o (pl G) (stS B G 0) (stH B G 0) 0 0 (uI (uI (uI (uI s1 (o + 5) 0 (Int32.ofInt 0)) (o + 5) 1 (Int32.ofInt 0)) o 8 (Int32.ofInt 0)) o 9 (Int32.ofInt 0)) := by
    have hH : ∀ t : Int, bmk (stH B G 0 t) = Int32.ofInt 0 := fun t => by
      rw [← bmk_no]
      refine bmk_congr (fun q _ _ => ?_)
      have := hms q
      unfold stH occ
      by_cases x : mAt B G (q % 5) (q / 5) = -1
      · rw [decide_eq_false (fun h => h x), Bool.false_and, Bool.false_and]
      · rw [decide_eq_false (by omega : ¬ mAt B G (q % 5) (q / 5) < 0), Bool.and_false]
    refine ⟨fun m m0 m1 => ?_, fun q q0 q1' => ?_, ⟨?_, ?_⟩, ?_, ?_⟩
    · rw [u_no (by omega), u_no (by omega), u_no (by omega), u_no (by omega), q3 _ _ (by omega)]; exact hpl m m0 m1
    · have := hms q
      rw [u_no (by omega), u_no (by omega), u_no (by omega), u_no (by omega), q2 _ (by omega)]
      unfold stS
      by_cases x : mAt B G (q % 5) (q / 5) < 0
      · rw [if_pos x, show mAt B G (q % 5) (q / 5) = -1 by omega]
      · rw [if_neg x]
    · rw [u_no (by omega), u_no (by omega), u_nk (by omega), u_eq, hH]
    · rw [u_no (by omega), u_no (by omega), u_eq, hH]
    · rw [u_nk (by omega), u_eq]
    · rw [u_eq]
  obtain ⟨s2, p1, p2, p3⟩ := c_settle_L (o := o) (p := p) hB hG ho hp (bM B).toNat fuel 0 _ (by rw [u_3, u_3, u_3, u_3, q4]; exact hP) (PB_Fm ho hp hPB f1) (by omega) (by omega) (by unfold fuel; omega) hR
  have f2 := f1.tr p3
  refine ⟨s2, ?_, ⟨⟨hB, hG⟩, ⟨ho, hp⟩, by rw [f2.2]; exact hP, PB_Fm ho hp hPB f2, ?_⟩, f2⟩
  · rw [← p1]
    simp (disch := omega) only [f_X3_settle, q1, g_kk, g_k1, g_n1, g_k2, g_n2, g_k3, g_n3, g_k4, g_n4, g_k5, g_n5, g_k7, g_n7, g_k8, g_n8, g_k9, g_n9, g_k6, g_r3, g_r4, g_r5, g_r6, g_r7, g_r10, g_q0, g_q1, g_q2, p_kk, p_k1, p_n1, p_k2, p_n2, p_k3, p_n3, p_k4, p_n4, p_k5, p_n5, p_k6, p_n6, p_k7, p_n7, p_k8, p_n8, p_k9, p_n9, p_k10, p_n10, p_k11, p_n11, p_k13, p_n13, p_k12, p_r2, p_r4, p_r5, p_r6, p_r7, p_r9, p_r10, p_r11, p_r13, p_r14, p_r15, p_r16, p_h0, n_i8, n_i16, n_0, n_31, n_add, n_sub, n_mul, n_neg, n_div, n_rem, n_le_t, n_le_f, n_lt_t, n_lt_f, n_eq_t, n_eq_f, n_cl, n_gd, n_gdt, n_nz, Int.reduceToNat, Int.reduceAdd, Int.reduceSub, Int.reduceMul, Int.reduceNeg, Int.reduceLT, Int.reduceLE, Int.reduceEq, Int.reduceDiv, Int.reduceMod, Nat.reduceAdd, Nat.reduceMul, ↓reduceIte, u_eq, u_no, u_nk, u_ek, u_2, u_3, j_1, j_3, j_eq, j_no, j_nk, ltd, bnd, Int.toNat_zero, Int.toNat_one]
  · refine RP_congr p2 (fun _ _ _ => rfl) (fun q _ _ => ?_) (fun t q _ _ _ _ => ?_) rfl rfl
    · unfold stS; rw [if_pos (hms q).2]
    · unfold stH; rw [decide_eq_true (hms q).2, Bool.and_true]
theorem uR_id {s : ST} {o k a : Nat} (hs : slot o k < 9) (h : RR s.2.2 o k = some a) : uR s o k a = s := by
  unfold RR at h
  rw [if_neg (by omega)] at h
  unfold uR
  have : (fun j => if j = slot o k then some a else s.2.2 j) = s.2.2 := by
    funext j
    by_cases e : j = slot o k
    · rw [if_pos e, e, h]
    · rw [if_neg e]
  rw [this]
theorem cp_ne {s : ST} {a0 a sp dp n o k : Nat} (h : ¬ o = a) : (cp s a0 a sp dp n).1 o k = s.1 o k := by unfold cp; simp only [h, if_false]
theorem cp_in {s : ST} {a0 a n k : Nat} (h : k < n) : (cp s a0 a 0 0 n).1 a k = s.1 a0 k := by
  unfold cp va_cpy
  simp only [if_true]
  rw [if_pos (by omega), show 0 + (k - 0) = k by omega]
theorem cp_2' (s : ST) (a0 a sp dp n : Nat) : (cp s a0 a sp dp n).2 = s.2 := rfl
theorem cp_22 (s : ST) (a0 a sp dp n : Nat) : (cp s a0 a sp dp n).2.2 = s.2.2 := rfl
theorem cpk_8 {α : Type} {x : Option α} : gd (cpk (Int32.ofInt 0) (Int32.ofInt 0) (Int32.ofInt 8) 8 8) x = x := rfl
theorem cpk_6 {α : Type} {x : Option α} : gd (cpk (Int32.ofInt 0) (Int32.ofInt 0) (Int32.ofInt 6) 6 6) x = x := rfl
theorem dy46 {α : Type} {x : Option α} : gd (dy 46 0) x = x := rfl
theorem c_copy {B : Brd} {G : Gam} {p : Nat} {s : ST} (h : GT B G 36 p s) (hr : RR s.2.2 46 0 = some p) {d : Int} (g1 : s.1 36 1 = Int32.ofInt d) {ds db : Int} (hD : DP B ds db 36 s) : ∃ s', f_X3_copy 46 36 s = some s' ∧ GT B G 46 p s' ∧ s'.1 46 1 = Int32.ofInt d ∧ DP B ds db 46 s' ∧ (∀ a k : Nat, ¬ (46 ≤ a ∧ a ≤ 55) → s'.1 a k = s.1 a k) ∧ s'.2 = s.2 := by
  obtain ⟨hGA, hGS, hGB⟩ := h
  have hB := hGA.1.1
  have hG := hGA.1.2
  have hM : bM B ≤ 8 := hB.1.1.2.2.2.2.2.2.2.1
  have hF6 : bF B ≤ 6 := hB.1.1.2.2.2.2.2.2.2.2.2
  obtain ⟨ho, hp⟩ := hGA.2.1
  have hP := hGA.2.2.1
  unfold GS at hGS
  obtain ⟨d0, d1⟩ := hD
  have d0 : s.1 37 0 = _ := d0
  have d1 : s.1 37 1 = _ := d1
  have hid := uR_id (s := s) (o := 46) (k := 0) (a := p) (by decide) hr
  have f1 : ∀ a k : Nat, ¬ (46 ≤ a ∧ a ≤ 55) → (cp (cp (uI (uI (uI (uI s 46 1 (Int32.ofInt d)) 46 2 (Int32.ofInt (gs G))) 47 0 (Int32.ofInt (dpt B ds db 0))) 47 1 (Int32.ofInt (dpt B ds db 1))) 38 48 0 0 8) 39 49 0 0 6).1 a k = s.1 a k := by
    intro a k h
    rw [cp_ne (by omega), cp_ne (by omega), u_no (by omega), u_no (by omega), u_no (by omega), u_no (by omega)]
  obtain ⟨s2, q1, q2, q3⟩ := c_settle (o := 46) (p := p) (G := G) (s := cp (cp (uI (uI (uI (uI s 46 1 (Int32.ofInt d)) 46 2 (Int32.ofInt (gs G))) 47 0 (Int32.ofInt (dpt B ds db 0))) 47 1 (Int32.ofInt (dpt B ds db 1))) 38 48 0 0 8) 39 49 0 0 6) hB hG (Or.inr rfl) hp hr (PB_fr hGA.2.2.2.1 (fun a k a0 a1 => f1 a k (by omega))) (fun m m0 m1 => by
    rw [cp_ne (by omega), cp_in (by omega), u_no (by omega), u_no (by omega), u_no (by omega), u_no (by omega)]
    exact hGA.2.2.2.2.1 m m0 m1)
  refine ⟨s2, ?_, ⟨q2, ?_, fun f f0 f1' => ?_⟩, ?_, ⟨?_, ?_⟩, fun a k h => (q3.1 a k (by omega) (by omega) (by omega) (by omega)).trans (f1 a k h), q3.2⟩
  · rw [← q1]
    have e3 : ∀ ρ : Nat → Option Nat, RR ρ 46 3 = some 47 := fun _ => rfl
    have e4 : ∀ ρ : Nat → Option Nat, RR ρ 46 4 = some 48 := fun _ => rfl
    have e5 : ∀ ρ : Nat → Option Nat, RR ρ 46 5 = some 49 := fun _ => rfl
    have c3 : ∀ ρ : Nat → Option Nat, RR ρ 36 3 = some 37 := fun _ => rfl
    have c4 : ∀ ρ : Nat → Option Nat, RR ρ 36 4 = some 38 := fun _ => rfl
    have c5 : ∀ ρ : Nat → Option Nat, RR ρ 36 5 = some 39 := fun _ => rfl
    have k1 : ∀ {x : Option ST}, gd (kk 36 3) x = x := rfl
    have k2 : ∀ {x : Option ST}, gd (kk 46 3) x = x := rfl
    have k3 : ∀ {x : Option ST}, gd (kk 37 13) x = x := rfl
    have k4 : ∀ {x : Option ST}, gd (kk 47 13) x = x := rfl
    have k5 : ∀ {x : Option ST}, gd (kk 38 13) x = x := rfl
    have k6 : ∀ {x : Option ST}, gd (kk 48 13) x = x := rfl
    have k7 : ∀ {x : Option ST}, gd (kk 39 13) x = x := rfl
    have k8 : ∀ {x : Option ST}, gd (kk 49 13) x = x := rfl
    have n1 : (K0 37).2 = 2 := rfl
    have n2 : (K0 47).2 = 2 := rfl
    have n3 : (K0 38).2 = 8 := rfl
    have n4 : (K0 48).2 = 8 := rfl
    have n5 : (K0 39).2 = 6 := rfl
    have n6 : (K0 49).2 = 6 := rfl
    have hbs : ∀ x : Option ST, x.bind (fun q => some q) = x := fun x => by cases x <;> rfl
    simp (disch := omega) only [f_X3_copy, hP, hid, g1, hGS, d0, d1, e3, e4, e5, c3, c4, c5, k1, k2, k3, k4, k5, k6, k7, k8, n1, n2, n3, n4, n5, n6, cpk_8, cpk_6, dy46, cp_22, hbs, n_i8, n_i16, n_0, n_31, n_add, n_sub, n_mul, n_neg, n_div, n_rem, n_le_t, n_le_f, n_lt_t, n_lt_f, n_eq_t, n_eq_f, n_cl, n_gd, n_gdt, n_nz, Int.reduceToNat, Int.reduceAdd, Int.reduceSub, Int.reduceMul, Int.reduceNeg, Int.reduceLT, Int.reduceLE, Int.reduceEq, Int.reduceDiv, Int.reduceMod, Nat.reduceAdd, Nat.reduceMul, ↓reduceIte, u_eq, u_no, u_nk, u_ek, u_2, u_3, j_1, j_3, j_eq, j_no, j_nk, ltd, bnd, Int.toNat_zero, Int.toNat_one]
  · unfold GS
    rw [q3.1 46 2 (by omega) (by omega) (by omega) (by omega), cp_ne (by omega), cp_ne (by omega), u_no (by omega), u_no (by omega), u_eq]
  · rw [q3.1 _ _ (by omega) (by omega) (by omega) (by omega)]
    show (cp _ 39 49 0 0 6).1 49 f.toNat = _
    rw [cp_in (by omega), cp_ne (by omega), u_no (by omega), u_no (by omega), u_no (by omega), u_no (by omega)]
    exact hGB f f0 f1'
  · rw [q3.1 46 1 (by omega) (by omega) (by omega) (by omega), cp_ne (by omega), cp_ne (by omega), u_no (by omega), u_no (by omega), u_nk (by omega), u_eq]
  · rw [q3.1 _ _ (by omega) (by omega) (by omega) (by omega)]
    show (cp _ 39 49 0 0 6).1 47 0 = _
    rw [cp_ne (by omega), cp_ne (by omega), u_nk (by omega), u_eq]
  · rw [q3.1 _ _ (by omega) (by omega) (by omega) (by omega)]
    show (cp _ 39 49 0 0 6).1 47 1 = _
    rw [cp_ne (by omega), cp_ne (by omega), u_eq]
