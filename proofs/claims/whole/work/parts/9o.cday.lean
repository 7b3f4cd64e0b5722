/-! L3: a day of the class -/
theorem farO_sym (x y a b : Int) : farO x y a b = farO a b x y := by
  unfold farO ab
  (repeat' split) <;> omega
/-- what a struck move may change -/
def FS (o : Nat) (s s' : ST) : Prop := (∀ a k : Nat, ¬ a = o + 2 → ¬ a = o + 4 → ¬ a = o + 5 → ¬ (a = o ∧ (k = 8 ∨ k = 9 ∨ (11 ≤ k ∧ k ≤ 13))) → s'.1 a k = s.1 a k) ∧ s'.2 = s.2
theorem FS.fd {o : Nat} {s t : ST} (h : FS o s t) : FD o s t := ⟨fun a k x => h.1 a k (by omega) (by omega) (by omega) (by omega), fun k => h.1 _ k (by omega) (by omega) (by omega) (by omega), h.2⟩
theorem k_okM {B : Brd} {G : Gam} (hB : Bv B) {m k : Int} (m0 : 0 ≤ m) (m1 : m < bM B) (k0 : 0 ≤ k) (k1 : k < bW B * bH B) (hgo : goK B G m k = true) : okM B G m (k % bW B) (k / bW B) := by
  have hW0 : 0 ≤ bW B := hB.1.1.1
  have hWp : 0 < bW B := by
    rcases Int.lt_or_eq_of_le hW0 with e | e
    · exact e
    · rw [← e] at k1; omega
  exact ⟨⟨m0, m1⟩, ⟨Int.emod_nonneg _ (by omega), Int.emod_lt_of_pos _ hWp⟩, ⟨Int.ediv_nonneg k0 hW0, Int.ediv_lt_of_lt_mul hWp (by rw [Int.mul_comm]; exact k1)⟩, hgo⟩
theorem tkm_b {B : Brd} {G : Gam} (hB : Bv B) {k : Int} : (-1 ≤ tkm B G k ∧ tkm B G k < bM B ∨ tkm B G k = -1) ∧ 0 ≤ tkw B G k ∧ tkw B G k ≤ 99 := by
  have hM0 : 0 ≤ bM B := hB.1.1.2.2.2.2.2.2.1
  have hsp := mAt_spec (B := B) hM0 G (k % bW B) (k / bW B)
  have htk : tkm B G k = mAt B G (k % bW B) (k / bW B) := rfl
  rw [← htk] at hsp
  refine ⟨by omega, ?_⟩
  unfold tkw
  split
  · omega
  · have hb := hB.2.2.1 (tkm B G k) (by omega) (by omega)
    have := hB.2.1 (kd B (tkm B G k)) hb.1 hb.2.1
    omega
theorem c_strike {B : Brd} {G : Gam} {o p : Nat} {s : ST} (h : GA B G o p s) {m k : Int} (m0 : 0 ≤ m) (m1 : m < bM B) (k0 : 0 ≤ k) (k1 : k < bW B * bH B) (hgo : goK B G m k = true) (hsd : sd B m = gs G) : ∃ s', f_X3_strike o (Int32.ofInt (25 * m + p5 B k)) s = some (Int32.ofInt (tkm B G k), s') ∧ GA B (mvK B G m k) o p s' ∧ (s'.1 o 11 = Int32.ofInt (tkw B G k) ∧ s'.1 o 12 = Int32.ofInt (p5 B k) ∧ s'.1 o 13 = Int32.ofInt (ckv B G m k)) ∧ FS o s s' := by
  have hB := h.1.1
  have hG := h.1.2
  have hk := k_okM hB m0 m1 k0 k1 hgo
  have hM : bM B ≤ 8 := hB.1.1.2.2.2.2.2.2.2.1
  have hM0 : 0 ≤ bM B := hB.1.1.2.2.2.2.2.2.1
  obtain ⟨ho, hp⟩ := h.2.1
  have hp5 := p5_x hB k0 k1
  have hmo := fun s => c_man (s := s) m0 (by omega : m ≤ 8) hp5.2.2.1 hp5.2.2.2
  have hpo := fun s => c_plc (s := s) m0 (by omega : m ≤ 8) hp5.2.2.1 hp5.2.2.2
  have hpe : 5 * (k / bW B) + k % bW B = p5 B k := rfl
  have hpl := pl_b hB hG m0 m1
  have hf := okM_f hB hG hk
  have hplc : s.1 (o + 2) m.toNat = Int32.ofInt (pl G m) := h.2.2.2.2.1 m m0 m1
  have hP := h.2.2.1
  have c8 : s.1 p 8 = Int32.ofInt (bM B) := h.2.2.2.1.1.2.2.2.1
  have hA1 : GA B G o p (uI s o 12 (Int32.ofInt (p5 B k))) := GA_fr h rfl (fun a j a0 a1 => u_no (by omega)) (fun j => ⟨u_no (by omega), u_no (by omega), u_no (by omega)⟩) (u_nk (by omega)) (u_nk (by omega))
  obtain ⟨s2, q1, q2, q3⟩ := c_carry hA1 hk
  rw [hpe] at q1
  have q2 : GA B (mvK B G m k) o p s2 := q2
  have htk : mAt B G (k % bW B) (k / bW B) = tkm B G k := rfl
  rw [htk] at q1
  have htb := tkm_b (G := G) hB (k := k)
  have hwo := c_worthOf hB hp q2.2.2.2.1 (m := tkm B G k) (by omega) (by omega)
  have hwe : wthM B (tkm B G k) = tkw B G k := rfl
  rw [hwe] at hwo
  have hP2 := q2.2.2.1
  have c2 : s2.1 (p + 7) m.toNat = Int32.ofInt (sd B m) := (q2.2.2.2.1.2.2.1 m m0 m1).2
  have hA3 : GA B (mvK B G m k) o p (uI s2 o 11 (Int32.ofInt (tkw B G k))) := GA_fr q2 rfl (fun a j a0 a1 => u_no (by omega)) (fun j => ⟨u_no (by omega), u_no (by omega), u_no (by omega)⟩) (u_nk (by omega)) (u_nk (by omega))
  have hgs := hG.1.2.2
  have hth := c_threat hA3 (u := gs G) (by omega) (by omega)
  have hcv : ckv B G m k = if chk B (mvK B G m k) (1 - gs G) = true then 1 else 0 := rfl
  have hA4 : ∀ c : Int, GA B (mvK B G m k) o p (uI (uI s2 o 11 (Int32.ofInt (tkw B G k))) o 13 (Int32.ofInt c)) := fun c => GA_fr hA3 rfl (fun a j a0 a1 => u_no (by omega)) (fun j => ⟨u_no (by omega), u_no (by omega), u_no (by omega)⟩) (u_nk (by omega)) (u_nk (by omega))
  refine ⟨uI (uI s2 o 11 (Int32.ofInt (tkw B G k))) o 13 (Int32.ofInt (ckv B G m k)), ?_, hA4 _, ⟨by rw [u_nk (by omega), u_eq], ?_, u_eq _ _ _ _⟩, ⟨fun a j x y z w => ?_, q3.2⟩⟩
  · rw [hsd] at c2
    have hpp : (0 : Int) ≤ pl G m := by omega
    have hpp2 : pl G m ≤ 25 := by omega
    cases e : chk B (mvK B G m k) (1 - gs G) with
    | true =>
      rw [e, if_pos rfl] at hcv
      rw [e] at hth
      rw [hcv]
      simp (disch := omega) only [f_X3_strike, f_X3_strike_j83, hmo, hpo, hP, hP2, c8, hplc, q1, hwo, c2, hth, bI_t, g_kk, g_k1, g_n1, g_k2, g_n2, g_k3, g_n3, g_k4, g_n4, g_k5, g_n5, g_k7, g_n7, g_k8, g_n8, g_k9, g_n9, g_k6, g_r3, g_r4, g_r5, g_r6, g_r7, g_r10, g_q0, g_q1, g_q2, p_kk, p_k1, p_n1, p_k2, p_n2, p_k3, p_n3, p_k4, p_n4, p_k5, p_n5, p_k6, p_n6, p_k7, p_n7, p_k8, p_n8, p_k9, p_n9, p_k10, p_n10, p_k11, p_n11, p_k13, p_n13, p_k12, p_r2, p_r4, p_r5, p_r6, p_r7, p_r9, p_r10, p_r11, p_r13, p_r14, p_r15, p_r16, p_h0, n_i8, n_i16, n_0, n_31, n_add, n_sub, n_mul, n_neg, n_div, n_rem, n_le_t, n_le_f, n_lt_t, n_lt_f, n_eq_t, n_eq_f, n_cl, n_gd, n_gdt, n_nz, Int.reduceToNat, Int.reduceAdd, Int.reduceSub, Int.reduceMul, Int.reduceNeg, Int.reduceLT, Int.reduceLE, Int.reduceEq, Int.reduceDiv, Int.reduceMod, Nat.reduceAdd, Nat.reduceMul, ↓reduceIte, u_eq, u_no, u_nk, u_ek, u_2, u_3, j_1, j_3, j_eq, j_no, j_nk, ltd, bnd]
    | false =>
      rw [e, if_neg (by decide)] at hcv
      rw [e] at hth
      rw [hcv]
      simp (disch := omega) only [f_X3_strike, f_X3_strike_j83, hmo, hpo, hP, hP2, c8, hplc, q1, hwo, c2, hth, bI_f, g_kk, g_k1, g_n1, g_k2, g_n2, g_k3, g_n3, g_k4, g_n4, g_k5, g_n5, g_k7, g_n7, g_k8, g_n8, g_k9, g_n9, g_k6, g_r3, g_r4, g_r5, g_r6, g_r7, g_r10, g_q0, g_q1, g_q2, p_kk, p_k1, p_n1, p_k2, p_n2, p_k3, p_n3, p_k4, p_n4, p_k5, p_n5, p_k6, p_n6, p_k7, p_n7, p_k8, p_n8, p_k9, p_n9, p_k10, p_n10, p_k11, p_n11, p_k13, p_n13, p_k12, p_r2, p_r4, p_r5, p_r6, p_r7, p_r9, p_r10, p_r11, p_r13, p_r14, p_r15, p_r16, p_h0, n_i8, n_i16, n_0, n_31, n_add, n_sub, n_mul, n_neg, n_div, n_rem, n_le_t, n_le_f, n_lt_t, n_lt_f, n_eq_t, n_eq_f, n_cl, n_gd, n_gdt, n_nz, Int.reduceToNat, Int.reduceAdd, Int.reduceSub, Int.reduceMul, Int.reduceNeg, Int.reduceLT, Int.reduceLE, Int.reduceEq, Int.reduceDiv, Int.reduceMod, Nat.reduceAdd, Nat.reduceMul, ↓reduceIte, u_eq, u_no, u_nk, u_ek, u_2, u_3, j_1, j_3, j_eq, j_no, j_nk, ltd, bnd]
  · rw [u_nk (by omega), u_nk (by omega), q3.1 o 12 (by omega) (by omega) (by omega) (by omega), u_eq]
  · rw [ua, if_neg (by omega), ua, if_neg (by omega), q3.1 a j x y z (by omega), ua, if_neg (by omega)]
theorem c_wither_L {B : Brd} {o p : Nat} (hV : Hv B) {t c q d : Int} (ht : lb t) (ht0 : 0 ≤ t) (hc : lb c) (q0 : 0 ≤ q) (q1 : q < 25) (hd0 : 0 ≤ d) (hd1 : d ≤ 1000) : ∀ (n F : Nat) (i : Int) (G : Gam) (s : ST), GA B G o p s → GB B G o s → s.1 o 11 = Int32.ofInt t → s.1 o 12 = Int32.ofInt q → s.1 o 13 = Int32.ofInt c → s.1 o 1 = Int32.ofInt d → 0 ≤ i → (n : Int) = bF B - i → n < F → ∃ s', f_X3_wither_L2 F o (Int32.ofInt i) s = some s' ∧ GA B ((upto n i).foldl (stp B t c (q % 5) (q / 5) d) G) o p s' ∧ GB B ((upto n i).foldl (stp B t c (q % 5) (q / 5) d) G) o s' ∧ (∀ a k : Nat, ¬ a = o + 3 → ¬ a = o + 6 → ¬ a = o + 7 → ¬ a = o + 9 → s'.1 a k = s.1 a k) ∧ s'.2 = s.2 := by
  intro n
  induction n with
  | zero =>
    intro F i G s h hb g1 g2 g3 g4 h0 hn hF
    obtain ⟨F, rfl⟩ : ∃ F', F = F' + 1 := ⟨F - 1, by omega⟩
    have h' := h
    obtain ⟨⟨hB, hG⟩, ⟨ho, hp⟩, hP, ⟨hn', -⟩, -⟩ := h'
    have hF6 : bF B ≤ 6 := hB.1.1.2.2.2.2.2.2.2.2.2
    have c12 : s.1 p 12 = Int32.ofInt (bF B) := hn'.2.2.2.2.1
    refine ⟨s, ?_, h, hb, fun _ _ _ _ _ _ => rfl, rfl⟩
    simp (disch := omega) only [f_X3_wither_L2, hP, c12, g_kk, g_k1, g_n1, g_k2, g_n2, g_k3, g_n3, g_k4, g_n4, g_k5, g_n5, g_k7, g_n7, g_k8, g_n8, g_k9, g_n9, g_k6, g_r3, g_r4, g_r5, g_r6, g_r7, g_r10, g_q0, g_q1, g_q2, p_kk, p_k1, p_n1, p_k2, p_n2, p_k3, p_n3, p_k4, p_n4, p_k5, p_n5, p_k6, p_n6, p_k7, p_n7, p_k8, p_n8, p_k9, p_n9, p_k10, p_n10, p_k11, p_n11, p_k13, p_n13, p_k12, p_r2, p_r4, p_r5, p_r6, p_r7, p_r9, p_r10, p_r11, p_r13, p_r14, p_r15, p_r16, p_h0, n_i8, n_i16, n_0, n_31, n_add, n_sub, n_mul, n_neg, n_div, n_rem, n_le_t, n_le_f, n_lt_t, n_lt_f, n_eq_t, n_eq_f, n_cl, n_gd, n_gdt, n_nz, Int.reduceToNat, Int.reduceAdd, Int.reduceSub, Int.reduceMul, Int.reduceNeg, Int.reduceLT, Int.reduceLE, Int.reduceEq, Int.reduceDiv, Int.reduceMod, Nat.reduceAdd, Nat.reduceMul, ↓reduceIte, u_eq, u_no, u_nk, u_ek, u_2, u_3, j_1, j_3, j_eq, j_no, j_nk, ltd, bnd]
  | succ n ih =>
    intro F i G s h hb g1 g2 g3 g4 h0 hn hF
    obtain ⟨F, rfl⟩ : ∃ F', F = F' + 1 := ⟨F - 1, by omega⟩
    have hA := h
    obtain ⟨⟨hB, hG⟩, ⟨ho, hp⟩, hP, hPB, -⟩ := h
    have hF6 : bF B ≤ 6 := hB.1.1.2.2.2.2.2.2.2.2.2
    have hW : bW B ≤ 5 := hB.1.1.2.1
    have hH : bH B ≤ 5 := hB.1.1.2.2.2.1
    have c12 : s.1 p 12 = Int32.ofInt (bF B) := hPB.1.2.2.2.2.1
    have hgb := hG.2.2.2 i h0 (by omega)
    have hcb := hb i h0 (by omega)
    have hfp := hB.2.2.2.1 i h0 (by omega)
    have cf := hPB.2.2.2.1 i h0 (by omega)
    obtain ⟨s1, p1, p2, p3, p4⟩ := c_harmTo hB ho hp hP hPB hV g1 g2 g3 g4 ht ht0 hc hd0 hd1 q0 q1 (r := 5 * fy B i + fx B i) (by omega) (by omega)
    have hfe : farO (q % 5) (q / 5) ((5 * fy B i + fx B i) % 5) ((5 * fy B i + fx B i) / 5) = farO (fx B i) (fy B i) (q % 5) (q / 5) := by
      rw [farO_sym, show (5 * fy B i + fx B i) % 5 = fx B i by omega, show (5 * fy B i + fx B i) / 5 = fy B i by omega]
    rw [hfe] at p1 p3 p4
    simp only [upto, List.foldl_cons]
    have hst : stp B t c (q % 5) (q / 5) d G i = setb G i (hitb (gb G i) (hvm B t c (farO (fx B i) (fy B i) (q % 5) (q / 5)) d)) := rfl
    generalize hvm B t c (farO (fx B i) (fy B i) (q % 5) (q / 5)) d = w at *
    have hw : 0 ≤ hitb (gb G i) w ∧ hitb (gb G i) w ≤ 999 := by unfold hitb; split <;> omega
    have hA1 : GA B G o p s1 := GA_fr hA (by rw [p2.2]) (fun a k a0 a1 => p2.1 a k (by omega) (by omega) (by omega)) (fun k => ⟨p2.1 _ k (by omega) (by omega) (by omega), p2.1 _ k (by omega) (by omega) (by omega), p2.1 _ k (by omega) (by omega) (by omega)⟩) (p2.1 o 8 (by omega) (by omega) (by omega)) (p2.1 o 9 (by omega) (by omega) (by omega))
    have hb1 : GB B G o s1 := fun f f0 f1 => (p2.1 _ _ (by omega) (by omega) (by omega)).trans (hb f f0 f1)
    rw [hst]
    obtain ⟨s2, q5, q6, q6b, q7, q8⟩ := ih F (i + 1) (setb G i (hitb (gb G i) w)) (uI s1 (o + 3) i.toNat (Int32.ofInt (hitb (gb G i) w))) (GA_b hA1 hw.1 hw.2) (GB_b hb1 h0) (by rw [u_no (by omega), p2.1 o 11 (by omega) (by omega) (by omega)]; exact g1) (by rw [u_no (by omega), p2.1 o 12 (by omega) (by omega) (by omega)]; exact g2) (by rw [u_no (by omega), p2.1 o 13 (by omega) (by omega) (by omega)]; exact g3) (by rw [u_no (by omega), p2.1 o 1 (by omega) (by omega) (by omega)]; exact g4) (by omega) (by omega) (by omega)
    refine ⟨s2, ?_, q6, q6b, fun a k x y z v => by rw [q7 a k x y z v, u_no x, p2.1 a k y z v], q8.trans p2.2⟩
    rw [← q5, f_X3_wither_L2]
    by_cases e : w ≤ gb G i
    · have e' : hitb (gb G i) w = gb G i - w := by unfold hitb; rw [if_pos e]
      rw [e']
      by_cases e2 : gb G i - w = 0
      · rw [e2]
        simp (disch := omega) only [hP, c12, hcb, cf, p1, e2, g_kk, g_k1, g_n1, g_k2, g_n2, g_k3, g_n3, g_k4, g_n4, g_k5, g_n5, g_k7, g_n7, g_k8, g_n8, g_k9, g_n9, g_k6, g_r3, g_r4, g_r5, g_r6, g_r7, g_r10, g_q0, g_q1, g_q2, p_kk, p_k1, p_n1, p_k2, p_n2, p_k3, p_n3, p_k4, p_n4, p_k5, p_n5, p_k6, p_n6, p_k7, p_n7, p_k8, p_n8, p_k9, p_n9, p_k10, p_n10, p_k11, p_n11, p_k13, p_n13, p_k12, p_r2, p_r4, p_r5, p_r6, p_r7, p_r9, p_r10, p_r11, p_r13, p_r14, p_r15, p_r16, p_h0, n_i8, n_i16, n_0, n_31, n_add, n_sub, n_mul, n_neg, n_div, n_rem, n_le_t, n_le_f, n_lt_t, n_lt_f, n_eq_t, n_eq_f, n_cl, n_gd, n_gdt, n_nz, Int.reduceToNat, Int.reduceAdd, Int.reduceSub, Int.reduceMul, Int.reduceNeg, Int.reduceLT, Int.reduceLE, Int.reduceEq, Int.reduceDiv, Int.reduceMod, Nat.reduceAdd, Nat.reduceMul, ↓reduceIte, u_eq, u_no, u_nk, u_ek, u_2, u_3, j_1, j_3, j_eq, j_no, j_nk, ltd, bnd]
      · simp (disch := omega) only [hP, c12, hcb, cf, p1, g_kk, g_k1, g_n1, g_k2, g_n2, g_k3, g_n3, g_k4, g_n4, g_k5, g_n5, g_k7, g_n7, g_k8, g_n8, g_k9, g_n9, g_k6, g_r3, g_r4, g_r5, g_r6, g_r7, g_r10, g_q0, g_q1, g_q2, p_kk, p_k1, p_n1, p_k2, p_n2, p_k3, p_n3, p_k4, p_n4, p_k5, p_n5, p_k6, p_n6, p_k7, p_n7, p_k8, p_n8, p_k9, p_n9, p_k10, p_n10, p_k11, p_n11, p_k13, p_n13, p_k12, p_r2, p_r4, p_r5, p_r6, p_r7, p_r9, p_r10, p_r11, p_r13, p_r14, p_r15, p_r16, p_h0, n_i8, n_i16, n_0, n_31, n_add, n_sub, n_mul, n_neg, n_div, n_rem, n_le_t, n_le_f, n_lt_t, n_lt_f, n_eq_t, n_eq_f, n_cl, n_gd, n_gdt, n_nz, Int.reduceToNat, Int.reduceAdd, Int.reduceSub, Int.reduceMul, Int.reduceNeg, Int.reduceLT, Int.reduceLE, Int.reduceEq, Int.reduceDiv, Int.reduceMod, Nat.reduceAdd, Nat.reduceMul, ↓reduceIte, u_eq, u_no, u_nk, u_ek, u_2, u_3, j_1, j_3, j_eq, j_no, j_nk, ltd, bnd]
    · have e' : hitb (gb G i) w = 0 := by unfold hitb; rw [if_neg e]
      rw [e']
      simp (disch := omega) only [hP, c12, hcb, cf, p1, g_kk, g_k1, g_n1, g_k2, g_n2, g_k3, g_n3, g_k4, g_n4, g_k5, g_n5, g_k7, g_n7, g_k8, g_n8, g_k9, g_n9, g_k6, g_r3, g_r4, g_r5, g_r6, g_r7, g_r10, g_q0, g_q1, g_q2, p_kk, p_k1, p_n1, p_k2, p_n2, p_k3, p_n3, p_k4, p_n4, p_k5, p_n5, p_k6, p_n6, p_k7, p_n7, p_k8, p_n8, p_k9, p_n9, p_k10, p_n10, p_k11, p_n11, p_k13, p_n13, p_k12, p_r2, p_r4, p_r5, p_r6, p_r7, p_r9, p_r10, p_r11, p_r13, p_r14, p_r15, p_r16, p_h0, n_i8, n_i16, n_0, n_31, n_add, n_sub, n_mul, n_neg, n_div, n_rem, n_le_t, n_le_f, n_lt_t, n_lt_f, n_eq_t, n_eq_f, n_cl, n_gd, n_gdt, n_nz, Int.reduceToNat, Int.reduceAdd, Int.reduceSub, Int.reduceMul, Int.reduceNeg, Int.reduceLT, Int.reduceLE, Int.reduceEq, Int.reduceDiv, Int.reduceMod, Nat.reduceAdd, Nat.reduceMul, ↓reduceIte, u_eq, u_no, u_nk, u_ek, u_2, u_3, j_1, j_3, j_eq, j_no, j_nk, ltd, bnd]
/-- a game of the class with what its fields bear and who is to move -/
def GT (B : Brd) (G : Gam) (o p : Nat) (s : ST) : Prop := GA B G o p s ∧ GS G o s ∧ GB B G o s
def tkA (B : Brd) (G : Gam) (A : CA) : Int := if A.1 = -1 then -1 else tkm B G A.2.2.2.2
theorem c_struck {B : Brd} {G : Gam} {o p : Nat} {s : ST} (h : GT B G o p s) (hV : Hv B) {A : CA} (hA : okA B G A) (hn : ¬ A.1 = -1) {d : Int} (g1 : s.1 o 1 = Int32.ofInt d) (hd : d = gd_ G) (hd1 : d ≤ 1000) : ∃ s1 s2, f_X3_strike o (Int32.ofInt (mvC B A)) s = some (Int32.ofInt (tkm B G A.2.2.2.2), s1) ∧ f_X3_wither o s1 = some s2 ∧ (GA B (mvK B G A.2.2.2.1 A.2.2.2.2) o p s1 ∧ (s1.1 o 11 = Int32.ofInt (tkw B G A.2.2.2.2) ∧ s1.1 o 12 = Int32.ofInt (p5 B A.2.2.2.2) ∧ s1.1 o 13 = Int32.ofInt (ckv B G A.2.2.2.1 A.2.2.2.2)) ∧ FS o s s1) ∧ (GA B (strG B G A.2.2.2.1 A.2.2.2.2) o p s2 ∧ GB B (strG B G A.2.2.2.1 A.2.2.2.2) o s2) ∧ (s2.1 o 2 = s.1 o 2 ∧ s2.1 o 1 = s.1 o 1) ∧ FD o s s2 := by
  obtain ⟨hGA, hGS, hGB⟩ := h
  have hB := hGA.1.1
  have hG := hGA.1.2
  rcases hA with hA | ⟨-, m1, m2, k1, k2, hsd, hgo⟩
  · exact absurd hA hn
  have hmc : mvC B A = 25 * A.2.2.2.1 + p5 B A.2.2.2.2 := by unfold mvC; rw [if_neg hn]
  rw [hmc]
  generalize hm : A.2.2.2.1 = m at *
  generalize hk : A.2.2.2.2 = k at *
  obtain ⟨ho, hp⟩ := hGA.2.1
  have hp5 := p5_x hB k1 k2
  have hF0 : 0 ≤ bF B := hB.1.1.2.2.2.2.2.2.2.2.1
  have hF6 : bF B ≤ 6 := hB.1.1.2.2.2.2.2.2.2.2.2
  have htb := tkm_b (G := G) hB (k := k)
  have hck2 : lb (ckv B G m k) := by unfold ckv lb; split <;> omega
  obtain ⟨s1, a1, a2, ⟨a3, a4, a5⟩, a6⟩ := c_strike hGA m1 m2 k1 k2 hgo hsd
  have hb1 : GB B (mvK B G m k) o s1 := fun f f0 f1 => (a6.1 _ _ (by omega) (by omega) (by omega) (by omega)).trans (hGB f f0 f1)
  have hd0 := hG.1.1
  obtain ⟨s2, b1, b2, b3, b4, b5⟩ := c_wither_L hV (t := tkw B G k) (c := ckv B G m k) (q := p5 B k) (d := d) ⟨by omega, by omega⟩ htb.2.1 hck2 hp5.2.2.1 hp5.2.2.2 (by omega) hd1 (bF B).toNat fuel 0 (mvK B G m k) s1 a2 hb1 a3 a4 a5 ((a6.1 o 1 (by omega) (by omega) (by omega) (by omega)).trans g1) (by omega) (by omega) (by unfold fuel; omega)
  have hfold : (upto (bF B).toNat 0).foldl (stp B (tkw B G k) (ckv B G m k) (p5 B k % 5) (p5 B k / 5) d) (mvK B G m k) = strG B G m k := by
    rw [hp5.1, hp5.2.1, hd]; rfl
  rw [hfold] at b2 b3
  refine ⟨s1, s2, a1, b1, ⟨a2, ⟨a3, a4, a5⟩, a6⟩, ⟨b2, b3⟩, ⟨?_, ?_⟩, a6.fd.tr ⟨fun a k x => b4 a k (by omega) (by omega) (by omega) (by omega), fun k => b4 _ k (by omega) (by omega) (by omega) (by omega), b5⟩⟩
  · rw [b4 o 2 (by omega) (by omega) (by omega) (by omega), a6.1 o 2 (by omega) (by omega) (by omega) (by omega)]
  · rw [b4 o 1 (by omega) (by omega) (by omega) (by omega), a6.1 o 1 (by omega) (by omega) (by omega) (by omega)]
theorem fold_grw_x (B : Brd) (m : Int) : ∀ (l : List Int) (G : Gam), gx (l.foldl (grw B) G) m = gx G m ∧ gy (l.foldl (grw B) G) m = gy G m
  | [], _ => ⟨rfl, rfl⟩
  | f :: l, G => by
    rw [List.foldl_cons]
    have := fold_grw_x B m l (grw B G f)
    exact ⟨this.1.trans rfl, this.2.trans rfl⟩
theorem fold_grw_b (B : Brd) (f : Int) : ∀ (l : List Int) (G G' : Gam), (∀ j, gb G j = gb G' j) → gb (l.foldl (grw B) G) f = gb (l.foldl (grw B) G') f
  | [], _, _, h => h f
  | j :: l, G, G', h => by
    rw [List.foldl_cons, List.foldl_cons]
    refine fold_grw_b B f l _ _ (fun i => ?_)
    unfold grw
    rw [setb_b, setb_b, h j, h i]
theorem Gv_grw {B : Brd} (hB : Bv B) : ∀ (l : List Int) (G : Gam), Gv B G → (∀ f ∈ l, 0 ≤ f ∧ f < bF B) → Gv B (l.foldl (grw B) G)
  | [], _, h, _ => h
  | f :: l, G, h, hl => by
    rw [List.foldl_cons]
    refine Gv_grw hB l _ ?_ (fun j hj => hl j (List.mem_cons_of_mem _ hj))
    have hf := hl f List.mem_cons_self
    have hgb := h.2.2.2 f hf.1 hf.2
    have hgr := hB.2.2.2.2.2
    refine Gv_setb h ?_ ?_
    · split <;> omega
    · split <;> omega
theorem c_passDay {B : Brd} {G : Gam} {o p : Nat} {s : ST} (h : GT B G o p s) (hV : Hv B) {A : CA} (hA : okA B G A) (g1 : s.1 o 1 = Int32.ofInt (gd_ G)) (hd1 : gd_ G ≤ 999) : ∃ s', f_X3_passDay o (Int32.ofInt (mvC B A)) s = some (Int32.ofInt (tkA B G A), s') ∧ GT B (dayG B G A) o p s' ∧ s'.1 o 1 = Int32.ofInt (d999 (gd_ G)) ∧ FD o s s' := by
  have h' := h
  obtain ⟨hGA, hGS, hGB⟩ := h'
  have hB := hGA.1.1
  have hG := hGA.1.2
  obtain ⟨ho, hp⟩ := hGA.2.1
  have hgs := hG.1.2.2
  have hd0 := hG.1.1
  have hF0 : 0 ≤ bF B := hB.1.1.2.2.2.2.2.2.2.2.1
  have hfl : ∀ f ∈ flds B, 0 ≤ f ∧ f < bF B := fun f hf => by
    have := (mem_upto (n := (bF B).toNat) (i := 0)).mp hf
    omega
  by_cases e : A.1 = -1
  · obtain ⟨s1, a1, a2, a3, a4, a5, a6⟩ := c_turn hGA hGB hGS hgs.1 hgs.2 g1 hd0 (by omega)
    have hmc : mvC B A = -1 := by unfold mvC; rw [if_pos e]
    have hta : tkA B G A = -1 := by unfold tkA; rw [if_pos e]
    have hdg : dayG B G A = dayN ((flds B).foldl (grw B) (flipG G)) := by unfold dayG; rw [if_pos e]
    have hGv : Gv B (dayN ((flds B).foldl (grw B) (flipG G))) := Gv_dayN (Gv_grw hB _ _ (Gv_flip hG) hfl) (by rw [fold_d (B := B) (g := grw B) (fun _ _ => rfl)]; exact hd1)
    refine ⟨s1, ?_, ⟨?_, ?_, ?_⟩, a5, a6⟩
    · rw [hmc, hta]
      simp (disch := omega) only [f_X3_passDay, f_X3_passDay_j16, a1, g_kk, g_k1, g_n1, g_k2, g_n2, g_k3, g_n3, g_k4, g_n4, g_k5, g_n5, g_k7, g_n7, g_k8, g_n8, g_k9, g_n9, g_k6, g_r3, g_r4, g_r5, g_r6, g_r7, g_r10, g_q0, g_q1, g_q2, p_kk, p_k1, p_n1, p_k2, p_n2, p_k3, p_n3, p_k4, p_n4, p_k5, p_n5, p_k6, p_n6, p_k7, p_n7, p_k8, p_n8, p_k9, p_n9, p_k10, p_n10, p_k11, p_n11, p_k13, p_n13, p_k12, p_r2, p_r4, p_r5, p_r6, p_r7, p_r9, p_r10, p_r11, p_r13, p_r14, p_r15, p_r16, p_h0, n_i8, n_i16, n_0, n_31, n_add, n_sub, n_mul, n_neg, n_div, n_rem, n_le_t, n_le_f, n_lt_t, n_lt_f, n_eq_t, n_eq_f, n_cl, n_gd, n_gdt, n_nz, Int.reduceToNat, Int.reduceAdd, Int.reduceSub, Int.reduceMul, Int.reduceNeg, Int.reduceLT, Int.reduceLE, Int.reduceEq, Int.reduceDiv, Int.reduceMod, Nat.reduceAdd, Nat.reduceMul, ↓reduceIte, u_eq, u_no, u_nk, u_ek, u_2, u_3, j_1, j_3, j_eq, j_no, j_nk, ltd, bnd]
    · rw [hdg]
      refine GA_cg a2 (fun m => ?_) (fun m => ?_) hGv
      · exact ((fold_grw_x B m (flds B) (flipG G)).1.trans rfl).trans (fold_grw_x B m (flds B) G).1.symm
      · exact ((fold_grw_x B m (flds B) (flipG G)).2.trans rfl).trans (fold_grw_x B m (flds B) G).2.symm
    · unfold GS; rw [dayG_s]; exact a4
    · rw [hdg]
      intro f f0 f1
      rw [a3 f f0 f1, dayN_b, fold_grw_b B f (flds B) (flipG G) G (fun _ => rfl)]
  · obtain ⟨s1, s2, b1, b2, -, ⟨b3, b4⟩, ⟨b5, b6⟩, b7⟩ := c_struck h hV hA e g1 rfl (by omega)
    obtain ⟨s3, a1, a2, a3, a4, a5, a6⟩ := c_turn b3 b4 (b5.trans hGS) hgs.1 hgs.2 (b6.trans g1) hd0 (by omega)
    have hmc : 0 ≤ mvC B A ∧ mvC B A ≤ 1000 := by
      rcases hA with hA | ⟨-, m1, m2, k1, k2, hsd, hgo⟩
      · exact absurd hA e
      · have hM : bM B ≤ 8 := hB.1.1.2.2.2.2.2.2.2.1
        have hp5 := p5_x hB k1 k2
        unfold mvC; rw [if_neg e]; omega
    have hta : tkA B G A = tkm B G A.2.2.2.2 := by unfold tkA; rw [if_neg e]
    have hdg : dayG B G A = dayN ((flds B).foldl (grw B) (strG B G A.2.2.2.1 A.2.2.2.2)) := by unfold dayG; rw [if_neg e]
    have hGv : Gv B (dayN ((flds B).foldl (grw B) (strG B G A.2.2.2.1 A.2.2.2.2))) := Gv_dayN a2.1.2 (by rw [fold_d (B := B) (g := grw B) (fun _ _ => rfl), strG_d]; exact hd1)
    refine ⟨s3, ?_, ⟨?_, ?_, ?_⟩, a5, b7.tr a6⟩
    · rw [hta]
      simp (disch := omega) only [f_X3_passDay, f_X3_passDay_j16, b1, b2, a1, g_kk, g_k1, g_n1, g_k2, g_n2, g_k3, g_n3, g_k4, g_n4, g_k5, g_n5, g_k7, g_n7, g_k8, g_n8, g_k9, g_n9, g_k6, g_r3, g_r4, g_r5, g_r6, g_r7, g_r10, g_q0, g_q1, g_q2, p_kk, p_k1, p_n1, p_k2, p_n2, p_k3, p_n3, p_k4, p_n4, p_k5, p_n5, p_k6, p_n6, p_k7, p_n7, p_k8, p_n8, p_k9, p_n9, p_k10, p_n10, p_k11, p_n11, p_k13, p_n13, p_k12, p_r2, p_r4, p_r5, p_r6, p_r7, p_r9, p_r10, p_r11, p_r13, p_r14, p_r15, p_r16, p_h0, n_i8, n_i16, n_0, n_31, n_add, n_sub, n_mul, n_neg, n_div, n_rem, n_le_t, n_le_f, n_lt_t, n_lt_f, n_eq_t, n_eq_f, n_cl, n_gd, n_gdt, n_nz, Int.reduceToNat, Int.reduceAdd, Int.reduceSub, Int.reduceMul, Int.reduceNeg, Int.reduceLT, Int.reduceLE, Int.reduceEq, Int.reduceDiv, Int.reduceMod, Nat.reduceAdd, Nat.reduceMul, ↓reduceIte, u_eq, u_no, u_nk, u_ek, u_2, u_3, j_1, j_3, j_eq, j_no, j_nk, ltd, bnd]
    · rw [hdg]
      exact GA_cg a2 (fun m => rfl) (fun m => rfl) hGv
    · unfold GS; rw [dayG_s]; exact a4
    · rw [hdg]
      intro f f0 f1
      rw [a3 f f0 f1, dayN_b]
/-- how deep the sides look -/
def DP (B : Brd) (ds db : Int) (o : Nat) (s : ST) : Prop := s.1 (o + 1) 0 = Int32.ofInt (dpt B ds db 0) ∧ s.1 (o + 1) 1 = Int32.ofInt (dpt B ds db 1)
theorem dpt_b {B : Brd} (hD : Bd B) {ds db t : Int} (h3 : ds = -1 ∨ (1 ≤ db ∧ db ≤ 2)) (t0 : 0 ≤ t) (t1 : t ≤ 1) : 1 ≤ dpt B ds db t ∧ dpt B ds db t ≤ 2 := by
  unfold Bd at hD
  unfold dpt
  have : t = 0 ∨ t = 1 := by omega
  rcases this with rfl | rfl <;> split <;> omega
theorem c_depth {B : Brd} {G : Gam} {o p : Nat} {s : ST} (h : GT B G o p s) {ds db : Int} (hD : DP B ds db o s) : f_X3_depth o s = some (Int32.ofInt (dpt B ds db (gs G)), s) := by
  obtain ⟨hGA, hGS, -⟩ := h
  obtain ⟨ho, hp⟩ := hGA.2.1
  have hgs := hGA.1.2.1.2.2
  unfold GS at hGS
  obtain ⟨d0, d1⟩ := hD
  have : gs G = 0 ∨ gs G = 1 := by omega
  rcases this with e | e
  · rw [e] at hGS ⊢
    simp (disch := omega) only [f_X3_depth, hGS, d0, Int.toNat_zero, g_kk, g_k1, g_n1, g_k2, g_n2, g_k3, g_n3, g_k4, g_n4, g_k5, g_n5, g_k7, g_n7, g_k8, g_n8, g_k9, g_n9, g_k6, g_r3, g_r4, g_r5, g_r6, g_r7, g_r10, g_q0, g_q1, g_q2, p_kk, p_k1, p_n1, p_k2, p_n2, p_k3, p_n3, p_k4, p_n4, p_k5, p_n5, p_k6, p_n6, p_k7, p_n7, p_k8, p_n8, p_k9, p_n9, p_k10, p_n10, p_k11, p_n11, p_k13, p_n13, p_k12, p_r2, p_r4, p_r5, p_r6, p_r7, p_r9, p_r10, p_r11, p_r13, p_r14, p_r15, p_r16, p_h0, n_i8, n_i16, n_0, n_31, n_add, n_sub, n_mul, n_neg, n_div, n_rem, n_le_t, n_le_f, n_lt_t, n_lt_f, n_eq_t, n_eq_f, n_cl, n_gd, n_gdt, n_nz, Int.reduceToNat, Int.reduceAdd, Int.reduceSub, Int.reduceMul, Int.reduceNeg, Int.reduceLT, Int.reduceLE, Int.reduceEq, Int.reduceDiv, Int.reduceMod, Nat.reduceAdd, Nat.reduceMul, ↓reduceIte, u_eq, u_no, u_nk, u_ek, u_2, u_3, j_1, j_3, j_eq, j_no, j_nk, ltd, bnd]
  · rw [e] at hGS ⊢
    simp (disch := omega) only [f_X3_depth, hGS, d1, Int.toNat_one, g_kk, g_k1, g_n1, g_k2, g_n2, g_k3, g_n3, g_k4, g_n4, g_k5, g_n5, g_k7, g_n7, g_k8, g_n8, g_k9, g_n9, g_k6, g_r3, g_r4, g_r5, g_r6, g_r7, g_r10, g_q0, g_q1, g_q2, p_kk, p_k1, p_n1, p_k2, p_n2, p_k3, p_n3, p_k4, p_n4, p_k5, p_n5, p_k6, p_n6, p_k7, p_n7, p_k8, p_n8, p_k9, p_n9, p_k10, p_n10, p_k11, p_n11, p_k13, p_n13, p_k12, p_r2, p_r4, p_r5, p_r6, p_r7, p_r9, p_r10, p_r11, p_r13, p_r14, p_r15, p_r16, p_h0, n_i8, n_i16, n_0, n_31, n_add, n_sub, n_mul, n_neg, n_div, n_rem, n_le_t, n_le_f, n_lt_t, n_lt_f, n_eq_t, n_eq_f, n_cl, n_gd, n_gdt, n_nz, Int.reduceToNat, Int.reduceAdd, Int.reduceSub, Int.reduceMul, Int.reduceNeg, Int.reduceLT, Int.reduceLE, Int.reduceEq, Int.reduceDiv, Int.reduceMod, Nat.reduceAdd, Nat.reduceMul, ↓reduceIte, u_eq, u_no, u_nk, u_ek, u_2, u_3, j_1, j_3, j_eq, j_no, j_nk, ltd, bnd]
theorem c_today {B : Brd} {G : Gam} {o p : Nat} {s : ST} (h : GT B G o p s) (hBd : Bd B) {ds db : Int} (h3 : ds = -1 ∨ (1 ≤ db ∧ db ≤ 2)) : ∃ s', f_X3_bestMove o (Int32.ofInt (dpt B ds db (gs G))) s = some (Int32.ofInt (mvC B (todA B ds db G)), s') ∧ GT B G o p s' ∧ Fm o s s' := by
  obtain ⟨hGA, hGS, hGB⟩ := h
  obtain ⟨ho, hp⟩ := hGA.2.1
  have hgs := hGA.1.2.1.2.2
  have hd := dpt_b hBd (ds := ds) (db := db) (t := gs G) h3 hgs.1 hgs.2
  obtain ⟨s1, q1, q2, q3⟩ := c_best hGA hGS hd.1 (by omega)
  exact ⟨s1, q1, ⟨q2, GS_Fm hGS q3, fun f f0 f1 => (q3.1 _ _ (by omega) (by omega) (by omega) (by omega)).trans (hGB f f0 f1)⟩, q3⟩
theorem c_days_L {B : Brd} {o p : Nat} (hV : Hv B) (hBd : Bd B) {ds db : Int} (h3 : ds = -1 ∨ (1 ≤ db ∧ db ≤ 2)) {N : Int} (N1 : N ≤ 100) : ∀ (n F : Nat) (i : Int) (G : Gam) (s : ST), GT B G o p s → s.1 o 1 = Int32.ofInt (gd_ G) → DP B ds db o s → gd_ G + n ≤ 999 → 0 ≤ i → (n : Int) = N - i → n < F → ∃ s', f_X3_passDays_L2 F o (Int32.ofInt N) (Int32.ofInt i) s = some s' ∧ GT B (daysN B ds db n G) o p s' ∧ s'.1 o 1 = Int32.ofInt (gd_ (daysN B ds db n G)) ∧ FD o s s' := by
  intro n
  induction n with
  | zero =>
    intro F i G s h g1 hD hd h0 hn hF
    obtain ⟨F, rfl⟩ : ∃ F', F = F' + 1 := ⟨F - 1, by omega⟩
    refine ⟨s, ?_, h, g1, FD.rf o s⟩
    simp (disch := omega) only [f_X3_passDays_L2, n_i8, n_i16, n_0, n_31, n_add, n_sub, n_mul, n_neg, n_div, n_rem, n_le_t, n_le_f, n_lt_t, n_lt_f, n_eq_t, n_eq_f, n_cl, n_gd, n_gdt, n_nz, Int.reduceToNat, Int.reduceAdd, Int.reduceSub, Int.reduceMul, Int.reduceNeg, Int.reduceLT, Int.reduceLE, Int.reduceEq, Int.reduceDiv, Int.reduceMod, Nat.reduceAdd, Nat.reduceMul, ↓reduceIte, u_eq, u_no, u_nk, u_ek, u_2, u_3, j_1, j_3, j_eq, j_no, j_nk, ltd, bnd]
  | succ n ih =>
    intro F i G s h g1 hD hd h0 hn hF
    obtain ⟨F, rfl⟩ : ∃ F', F = F' + 1 := ⟨F - 1, by omega⟩
    obtain ⟨ho, hp⟩ := h.1.2.1
    have hB := h.1.1.1
    have hde := c_depth h hD
    obtain ⟨s1, q1, q2, q3⟩ := c_today h hBd h3
    obtain ⟨s2, b1, b2, b3, b4⟩ := c_passDay q2 hV (A := todA B ds db G) (okA_cb hB) ((q3.1 o 1 (by omega) (by omega) (by omega) (by omega)).trans g1) (by omega)
    have hde2 : d999 (gd_ G) = gd_ (dayB B ds db G) := by
      unfold dayB; rw [dayG_d]; unfold d999; split <;> omega
    rw [hde2] at b3
    have hf := q3.fd.tr b4
    obtain ⟨s3, c1, c2, c3, c4⟩ := ih F (i + 1) (dayB B ds db G) s2 b2 b3 ⟨(hf.2.1 0).trans hD.1, (hf.2.1 1).trans hD.2⟩ (by unfold dayB; rw [dayG_d]; omega) (by omega) (by omega) (by omega)
    refine ⟨s3, ?_, c2, c3, hf.tr c4⟩
    rw [← c1, f_X3_passDays_L2]
    simp (disch := omega) only [hde, q1, b1, g_kk, g_k1, g_n1, g_k2, g_n2, g_k3, g_n3, g_k4, g_n4, g_k5, g_n5, g_k7, g_n7, g_k8, g_n8, g_k9, g_n9, g_k6, g_r3, g_r4, g_r5, g_r6, g_r7, g_r10, g_q0, g_q1, g_q2, p_kk, p_k1, p_n1, p_k2, p_n2, p_k3, p_n3, p_k4, p_n4, p_k5, p_n5, p_k6, p_n6, p_k7, p_n7, p_k8, p_n8, p_k9, p_n9, p_k10, p_n10, p_k11, p_n11, p_k13, p_n13, p_k12, p_r2, p_r4, p_r5, p_r6, p_r7, p_r9, p_r10, p_r11, p_r13, p_r14, p_r15, p_r16, p_h0, n_i8, n_i16, n_0, n_31, n_add, n_sub, n_mul, n_neg, n_div, n_rem, n_le_t, n_le_f, n_lt_t, n_lt_f, n_eq_t, n_eq_f, n_cl, n_gd, n_gdt, n_nz, Int.reduceToNat, Int.reduceAdd, Int.reduceSub, Int.reduceMul, Int.reduceNeg, Int.reduceLT, Int.reduceLE, Int.reduceEq, Int.reduceDiv, Int.reduceMod, Nat.reduceAdd, Nat.reduceMul, ↓reduceIte, u_eq, u_no, u_nk, u_ek, u_2, u_3, j_1, j_3, j_eq, j_no, j_nk, ltd, bnd]
theorem c_days {B : Brd} {G : Gam} {o p : Nat} {s : ST} (hV : Hv B) (hBd : Bd B) {ds db : Int} (h3 : ds = -1 ∨ (1 ≤ db ∧ db ≤ 2)) (h : GT B G o p s) (g1 : s.1 o 1 = Int32.ofInt (gd_ G)) (hD : DP B ds db o s) {n : Int} (n0 : 0 ≤ n) (n1 : n ≤ 100) (hd : gd_ G + n ≤ 999) : ∃ s', f_X3_passDays o (Int32.ofInt n) s = some s' ∧ GT B (daysN B ds db n.toNat G) o p s' ∧ s'.1 o 1 = Int32.ofInt (gd_ (daysN B ds db n.toNat G)) ∧ FD o s s' :=
  c_days_L hV hBd h3 n1 n.toNat fuel 0 G s h g1 hD (by omega) (by omega) (by omega) (by unfold fuel; omega)
